def G_192 (a0 : Nat) (lab : Nat) (xs : List Int32) (ys : List Int64) (zs : List Nat) (c12 : Cl) : Option (Int32 × Cl) := match lab, xs, ys, zs with
  | 0, [], [], [] =>
    F_177 c12 a0 >>= fun r3 =>
    if r3.1 = 43 then
    G_192 a0 1 [] [] [] r3.2
    else
    F_177 r3.2 a0 >>= fun r5 =>
    if r5.1 = 45 then
    G_192 a0 1 [] [] [] r5.2
    else
    some (1, r5.2)
  | 1, [], [], [] =>
    ald (cA c12 0 a0) 400 (cI c12 8 a0) >>= fun v7 =>
    ((if v7 = 43 then
    some 2
    else
    some 3) : Option (Int32)) >>= fun (t8 : Int32) =>
    some (sI c12 8 a0 ((cI c12 8 a0) + 1)) >>= fun c12_10 =>
    F_191 c12_10 a0 >>= fun r11 =>
    if r11.1 = 0 then
    some (0, r11.2)
    else
    F_185 r11.2 a0 t8 0 >>= fun r13 =>
    G_192 a0 0 [] [] [] r13
  | _, _, _, _ => none
partial_fixpoint
set_option maxRecDepth 100000 in
set_option maxHeartbeats 4000000 in
theorem g_192 {D : Nat} (hD : 6 ≤ D + 1) {c0 c1 c2 c3 c4 c5 c6 c7 c8 c9 c10 c11 c13 : Cl} {d : Ad} {a0 : Nat} (ha0 : aK d a0 = (0, 12, 0)) : ∀ (lab : Nat) (xs : List Int32) (ys : List Int64) (zs : List Nat) (c12 : Cl) (r : (Int32 × Cl)), G_192 a0 lab xs ys zs c12 = some r →
    (∀ (_ : Unit), lab = 0 → xs = [] → ys = [] → zs = [] → ∀ h : UH, HW (mkw c0 c1 c2 c3 c4 c5 c6 c7 c8 c9 c10 c11 c12 c13) d h → ∀ QQ : UR → Prop, (∀ h' : UH, HW (mkw c0 c1 c2 c3 c4 c5 c6 c7 c8 c9 c10 c11 r.2 c13) d h' → QQ (some (.int r.1), h')) → Ends (EX D) (u_at kl_192) (9, [some (.ref a0), none], [], h) QQ) ∧
    (∀ (_ : Unit), lab = 1 → xs = [] → ys = [] → zs = [] → ∀ h : UH, HW (mkw c0 c1 c2 c3 c4 c5 c6 c7 c8 c9 c10 c11 c12 c13) d h → ∀ QQ : UR → Prop, (∀ h' : UH, HW (mkw c0 c1 c2 c3 c4 c5 c6 c7 c8 c9 c10 c11 r.2 c13) d h' → QQ (some (.int r.1), h')) → Ends (EX D) (u_at kl_192) (27, [some (.ref a0), none], [], h) QQ) := by
  refine G_192.partial_correctness _ (motive := fun lab xs ys zs c12 r =>
    (∀ (_ : Unit), lab = 0 → xs = [] → ys = [] → zs = [] → ∀ h : UH, HW (mkw c0 c1 c2 c3 c4 c5 c6 c7 c8 c9 c10 c11 c12 c13) d h → ∀ QQ : UR → Prop, (∀ h' : UH, HW (mkw c0 c1 c2 c3 c4 c5 c6 c7 c8 c9 c10 c11 r.2 c13) d h' → QQ (some (.int r.1), h')) → Ends (EX D) (u_at kl_192) (9, [some (.ref a0), none], [], h) QQ) ∧
    (∀ (_ : Unit), lab = 1 → xs = [] → ys = [] → zs = [] → ∀ h : UH, HW (mkw c0 c1 c2 c3 c4 c5 c6 c7 c8 c9 c10 c11 c12 c13) d h → ∀ QQ : UR → Prop, (∀ h' : UH, HW (mkw c0 c1 c2 c3 c4 c5 c6 c7 c8 c9 c10 c11 r.2 c13) d h' → QQ (some (.int r.1), h')) → Ends (EX D) (u_at kl_192) (27, [some (.ref a0), none], [], h) QQ)) ?_
  intro G ih lab xs ys zs c12 r hF
  refine ⟨?_, ?_⟩
  · intro _ e1 e2 e3 e4 h hW QQ hQ
    subst e1 e2 e3 e4
    refine en_segs [(9, .aload_n 0, [])] (by decide +kernel) (y := (10, [some (.ref a0), none], [.ref a0], h)) rfl ?_
    obtain ⟨r3, hr3, hF⟩ := ob_some hF
    refine en_vi (r := []) (by decide +kernel : u_at kl_192 10 = some (.invokevirtual 136, [177, 0, 12])) hW ha0 rfl rfl (Nat.le_of_ble_eq_true rfl) (e_177 (D := D) (by omega) hW ha0 hr3) (fun h hW => ?_)
    have hW : HW (mkw c0 c1 c2 c3 c4 c5 c6 c7 c8 c9 c10 c11 r3.2 c13) d h := hW
    refine en_segs [(13, .bipush 43, [])] (by decide +kernel) (y := (15, [some (.ref a0), none], [.int 43, .int r3.1], h)) rfl ?_
    refine en_ic_eq (by decide +kernel : u_at kl_192 15 = some (.if_icmp .eq 12, [27])) (fun b4 => ?_) (fun b4 => ?_)
    · replace hF := i_pos b4 hF
      exact (ih _ _ _ _ _ _ hF).2 () rfl rfl rfl rfl  _ hW _ hQ
    · replace hF := i_neg b4 hF
      refine en_segs [(18, .aload_n 0, [])] (by decide +kernel) (y := (19, [some (.ref a0), none], [.ref a0], h)) rfl ?_
      obtain ⟨r5, hr5, hF⟩ := ob_some hF
      refine en_vi (r := []) (by decide +kernel : u_at kl_192 19 = some (.invokevirtual 136, [177, 0, 12])) hW ha0 rfl rfl (Nat.le_of_ble_eq_true rfl) (e_177 (D := D) (by omega) hW ha0 hr5) (fun h hW => ?_)
      have hW : HW (mkw c0 c1 c2 c3 c4 c5 c6 c7 c8 c9 c10 c11 r5.2 c13) d h := hW
      refine en_segs [(22, .bipush 45, [])] (by decide +kernel) (y := (24, [some (.ref a0), none], [.int 45, .int r5.1], h)) rfl ?_
      refine en_ic_ne (by decide +kernel : u_at kl_192 24 = some (.if_icmp .ne 51, [75])) (fun b6 => ?_) (fun b6 => ?_)
      · replace hF := i_pos b6 hF
        exact (ih _ _ _ _ _ _ hF).2 () rfl rfl rfl rfl  _ hW _ hQ
      · replace hF := i_neg b6 hF
        refine en_segs [(75, .iconst 1, [])] (by decide +kernel) (y := (76, [some (.ref a0), none], [.int 1], h)) rfl ?_
        obtain rfl := Option.some.inj hF
        exact en_ret (by decide +kernel : u_at kl_192 76 = some (.ireturn, [1])) rfl (hQ _ hW)
  · intro _ e1 e2 e3 e4 h hW QQ hQ
    subst e1 e2 e3 e4
    refine en_segs [(27, .aload_n 0, [])] (by decide +kernel) (y := (28, [some (.ref a0), none], [.ref a0], h)) rfl ?_
    refine en_get (by decide +kernel : u_at kl_192 28 = some (.getfield 7, [12, 0])) hW ha0 (by decide) rfl ?_
    refine en_segs [(31, .aload_n 0, [])] (by decide +kernel) (y := (32, [some (.ref a0), none], [.ref a0, .ref (aP d 12 0 a0)], h)) rfl ?_
    refine en_get (by decide +kernel : u_at kl_192 32 = some (.getfield 133, [12, 8])) hW ha0 (by decide) rfl ?_
    obtain ⟨v7, hv7, hF⟩ := ob_some hF
    refine en_bald (by decide +kernel : u_at kl_192 35 = some (.baload, [])) hW ha0 rfl (by decide) hv7 ?_
    refine en_segs [(36, .bipush 43, [])] (by decide +kernel) (y := (38, [some (.ref a0), none], [.int 43, .int v7], h)) rfl ?_
    obtain ⟨t8, hX, hK⟩ := ob_some hF
    have j9 : ∀ h : UH, HW (mkw c0 c1 c2 c3 c4 c5 c6 c7 c8 c9 c10 c11 c12 c13) d h → Ends (EX D) (u_at kl_192) (46, [some (.ref a0), none], [.int t8], h) QQ := by
      intro h hW
      have hF := hK
      refine en_segs [(46, .istore_n 1, []), (47, .aload_n 0, []), (48, .dup, [])] (by decide +kernel) (y := (49, [some (.ref a0), some (.int t8)], [.ref a0, .ref a0], h)) rfl ?_
      refine en_get (by decide +kernel : u_at kl_192 49 = some (.getfield 133, [12, 8])) hW ha0 (by decide) rfl ?_
      refine en_segs [(52, .iconst 1, []), (53, .iadd, [])] (by decide +kernel) (y := (54, [some (.ref a0), some (.int t8)], [.int ((cI c12 8 a0) + 1), .ref a0], h)) rfl ?_
      obtain ⟨c12_10, hc12_10, hF⟩ := ob_some hF
      refine en_putI (by decide +kernel : u_at kl_192 54 = some (.putfield 133, [12, 8, 0])) hW ha0 rfl (by decide) rfl (fun h hW => ?_)
      have hW : HW (mkw c0 c1 c2 c3 c4 c5 c6 c7 c8 c9 c10 c11 c12_10 c13) d h := by rw [← Option.some.inj hc12_10]; exact hW
      refine en_segs [(57, .aload_n 0, [])] (by decide +kernel) (y := (58, [some (.ref a0), some (.int t8)], [.ref a0], h)) rfl ?_
      obtain ⟨r11, hr11, hF⟩ := ob_some hF
      refine en_vi (r := []) (by decide +kernel : u_at kl_192 58 = some (.invokevirtual 223, [191, 0, 12])) hW ha0 rfl rfl (Nat.le_of_ble_eq_true rfl) (e_191 (D := D) (by omega) hW ha0 hr11) (fun h hW => ?_)
      have hW : HW (mkw c0 c1 c2 c3 c4 c5 c6 c7 c8 c9 c10 c11 r11.2 c13) d h := hW
      refine en_if_ne (by decide +kernel : u_at kl_192 61 = some (.ifCond .ne 5, [66])) (fun b12 => ?_) (fun b12 => ?_)
      · replace hF := i_pos b12 hF
        refine en_segs [(64, .iconst 0, [])] (by decide +kernel) (y := (65, [some (.ref a0), some (.int t8)], [.int 0], h)) rfl ?_
        obtain rfl := Option.some.inj hF
        exact en_ret (by decide +kernel : u_at kl_192 65 = some (.ireturn, [1])) rfl (hQ _ hW)
      · replace hF := i_neg b12 hF
        refine en_segs [(66, .aload_n 0, []), (67, .iload_n 1, []), (68, .iconst 0, [])] (by decide +kernel) (y := (69, [some (.ref a0), some (.int t8)], [.int 0, .int t8, .ref a0], h)) rfl ?_
        obtain ⟨r13, hr13, hF⟩ := ob_some hF
        refine en_vv (r := []) (by decide +kernel : u_at kl_192 69 = some (.invokevirtual 205, [185, 2, 12])) hW ha0 rfl rfl (Nat.le_of_ble_eq_true rfl) (e_185 (D := D) (by omega) hW ha0 hr13) (fun h hW => ?_)
        have hW : HW (mkw c0 c1 c2 c3 c4 c5 c6 c7 c8 c9 c10 c11 r13 c13) d h := hW
        refine en_segs [(72, .goto (-63), [9])] (by decide +kernel) (y := (9, [some (.ref a0), some (.int t8)], [], h)) rfl ?_
        refine en_fg (fg_k (fg_d fg_0)) ?_
        exact (ih _ _ _ _ _ _ hF).1 () rfl rfl rfl rfl  _ hW _ hQ
    have hF := hX
    refine en_ic_ne (by decide +kernel : u_at kl_192 38 = some (.if_icmp .ne 7, [45])) (fun b14 => ?_) (fun b14 => ?_)
    · replace hF := i_pos b14 hF
      refine en_segs [(41, .iconst 2, []), (42, .goto 4, [46])] (by decide +kernel) (y := (46, [some (.ref a0), none], [.int 2], h)) rfl ?_
      obtain rfl := Option.some.inj hF
      exact j9 _ hW
    · replace hF := i_neg b14 hF
      refine en_segs [(45, .iconst 3, [])] (by decide +kernel) (y := (46, [some (.ref a0), none], [.int 3], h)) rfl ?_
      obtain rfl := Option.some.inj hF
      exact j9 _ hW
def F_192 (c12 : Cl) (a0 : Nat) : Option (Int32 × Cl) :=
  F_191 c12 a0 >>= fun r1 =>
  if r1.1 = 0 then
  some (0, r1.2)
  else
  G_192 a0 0 [] [] [] r1.2
set_option maxRecDepth 100000 in
set_option maxHeartbeats 4000000 in
/-- HeadCountsModel.sum -/
theorem e_192 {D : Nat} {c0 c1 c2 c3 c4 c5 c6 c7 c8 c9 c10 c11 c12 c13 : Cl} {d : Ad} {h : UH} {a0 : Nat} {r : (Int32 × Cl)} (hD : 6 ≤ D) (hW : HW (mkw c0 c1 c2 c3 c4 c5 c6 c7 c8 c9 c10 c11 c12 c13) d h) (ha0 : aK d a0 = (0, 12, 0)) (hF : F_192 c12 a0 = some r) : ∃ q, EX D 192 [.ref a0] h q ∧ q.1 = some (.int r.1) ∧ HW (mkw c0 c1 c2 c3 c4 c5 c6 c7 c8 c9 c10 c11 r.2 c13) d q.2 := by
  obtain ⟨D, rfl⟩ : ∃ E, D = E + 1 := ⟨D - 1, by omega⟩
  unfold F_192 at hF
  refine ex_in (kl := kl_192) (nL := 2) rfl (by decide +kernel) (Nat.le_of_ble_eq_true rfl) ?_
  obtain ⟨QQ, hQQ⟩ : ∃ QQ : UR → Prop, QQ = (fun q : UR => q.1 = some (.int r.1) ∧ HW (mkw c0 c1 c2 c3 c4 c5 c6 c7 c8 c9 c10 c11 r.2 c13) d q.2) := ⟨_, rfl⟩
  rw [← hQQ]
  have hQ : ∀ h' : UH, HW (mkw c0 c1 c2 c3 c4 c5 c6 c7 c8 c9 c10 c11 r.2 c13) d h' → QQ (some (.int r.1), h') := fun h' p => by rw [hQQ]; exact ⟨rfl, p⟩
  clear hQQ
  show Ends (EX D) (u_at kl_192) (0, [some (.ref a0), none], [], h) QQ
  refine en_segs [(0, .aload_n 0, [])] (by decide +kernel) (y := (1, [some (.ref a0), none], [.ref a0], h)) rfl ?_
  obtain ⟨r1, hr1, hF⟩ := ob_some hF
  refine en_vi (r := []) (by decide +kernel : u_at kl_192 1 = some (.invokevirtual 223, [191, 0, 12])) hW ha0 rfl rfl (Nat.le_of_ble_eq_true rfl) (e_191 (D := D) (by omega) hW ha0 hr1) (fun h hW => ?_)
  have hW : HW (mkw c0 c1 c2 c3 c4 c5 c6 c7 c8 c9 c10 c11 r1.2 c13) d h := hW
  refine en_if_ne (by decide +kernel : u_at kl_192 4 = some (.ifCond .ne 5, [9])) (fun b2 => ?_) (fun b2 => ?_)
  · replace hF := i_pos b2 hF
    refine en_segs [(7, .iconst 0, [])] (by decide +kernel) (y := (8, [some (.ref a0), none], [.int 0], h)) rfl ?_
    obtain rfl := Option.some.inj hF
    exact en_ret (by decide +kernel : u_at kl_192 8 = some (.ireturn, [1])) rfl (hQ _ hW)
  · replace hF := i_neg b2 hF
    exact (g_192 (D := D) hD ha0 _ _ _ _ _ _ hF).1 () rfl rfl rfl rfl  _ hW _ hQ
def G_193 (c12 : Cl) (a0 : Nat) (lab : Nat) (xs : List Int32) (ys : List Int64) (zs : List Nat) : Option (Int32 × Cl) := match lab, xs, ys, zs with
  | 0, [x1, x2], [], [] =>
    some (sI c12 8 a0 ((cI c12 8 a0) + 1)) >>= fun c12_9 =>
    ((if x1 = 61 then
    some 0
    else
    if (cI c12_9 1 a0) ≤ (cI c12_9 8 a0) then
    some 0
    else
    ald (cA c12_9 0 a0) 400 (cI c12_9 8 a0) >>= fun v29 =>
    if v29 = 61 then
    some 1
    else
    some 0) : Option (Int32)) >>= fun (t10 : Int32) =>
    ((if t10 = 0 then
    some c12_9
    else
    some (sI c12_9 8 a0 ((cI c12_9 8 a0) + 1)) >>= fun c12_26 =>
    some c12_26) : Option (Cl)) >>= fun (t12 : Cl) =>
    F_186 t12 a0 x2 >>= fun r14 =>
    if r14.1 = 0 then
    some (0, r14.2)
    else
    ((if x1 = 60 then
    if t10 = 0 then
    some 0
    else
    some 1
    else
    if x1 = 61 then
    some 2
    else
    if t10 = 0 then
    some 4
    else
    some 3) : Option (Int32)) >>= fun (t16 : Int32) =>
    F_192 r14.2 a0 >>= fun r18 =>
    if r18.1 = 0 then
    some (0, r18.2)
    else
    F_185 r18.2 a0 (6 + t16) 0 >>= fun r20 =>
    some (1, r20)
  | _, _, _, _ => none
set_option maxRecDepth 100000 in
set_option maxHeartbeats 4000000 in
theorem g_193 {D : Nat} (hD : 7 ≤ D + 1) {c0 c1 c2 c3 c4 c5 c6 c7 c8 c9 c10 c11 c12 c13 : Cl} {d : Ad} {a0 : Nat} (ha0 : aK d a0 = (0, 12, 0)) : ∀ (lab : Nat) (xs : List Int32) (ys : List Int64) (zs : List Nat) (r : (Int32 × Cl)), G_193 c12 a0 lab xs ys zs = some r →
    (∀ (x1 : Int32) (x2 : Int32), lab = 0 → xs = [x1, x2] → ys = [] → zs = [] → ∀ h : UH, HW (mkw c0 c1 c2 c3 c4 c5 c6 c7 c8 c9 c10 c11 c12 c13) d h → ∀ QQ : UR → Prop, (∀ h' : UH, HW (mkw c0 c1 c2 c3 c4 c5 c6 c7 c8 c9 c10 c11 r.2 c13) d h' → QQ (some (.int r.1), h')) → Ends (EX D) (u_at kl_193) (44, [some (.ref a0), some (.int x1), some (.int x2), none, none], [], h) QQ) := by
  intro lab xs ys zs r hF
  unfold G_193 at hF
  · intro x1 x2 e1 e2 e3 e4 h hW QQ hQ
    subst e1 e2 e3 e4
    refine en_segs [(44, .aload_n 0, []), (45, .dup, [])] (by decide +kernel) (y := (46, [some (.ref a0), some (.int x1), some (.int x2), none, none], [.ref a0, .ref a0], h)) rfl ?_
    refine en_get (by decide +kernel : u_at kl_193 46 = some (.getfield 133, [12, 8])) hW ha0 (by decide) rfl ?_
    refine en_segs [(49, .iconst 1, []), (50, .iadd, [])] (by decide +kernel) (y := (51, [some (.ref a0), some (.int x1), some (.int x2), none, none], [.int ((cI c12 8 a0) + 1), .ref a0], h)) rfl ?_
    obtain ⟨c12_9, hc12_9, hF⟩ := ob_some hF
    refine en_putI (by decide +kernel : u_at kl_193 51 = some (.putfield 133, [12, 8, 0])) hW ha0 rfl (by decide) rfl (fun h hW => ?_)
    have hW : HW (mkw c0 c1 c2 c3 c4 c5 c6 c7 c8 c9 c10 c11 c12_9 c13) d h := by rw [← Option.some.inj hc12_9]; exact hW
    refine en_segs [(54, .iload_n 1, []), (55, .bipush 61, [])] (by decide +kernel) (y := (57, [some (.ref a0), some (.int x1), some (.int x2), none, none], [.int 61, .int x1], h)) rfl ?_
    obtain ⟨t10, hX, hK⟩ := ob_some hF
    have j11 : ∀ h : UH, HW (mkw c0 c1 c2 c3 c4 c5 c6 c7 c8 c9 c10 c11 c12_9 c13) d h → Ends (EX D) (u_at kl_193) (90, [some (.ref a0), some (.int x1), some (.int x2), none, none], [.int t10], h) QQ := by
      intro h hW
      have hF := hK
      refine en_segs [(90, .istore_n 3, []), (91, .iload_n 3, [])] (by decide +kernel) (y := (92, [some (.ref a0), some (.int x1), some (.int x2), some (.int t10), none], [.int t10], h)) rfl ?_
      obtain ⟨t12, hX, hK⟩ := ob_some hF
      have j13 : ∀ h : UH, HW (mkw c0 c1 c2 c3 c4 c5 c6 c7 c8 c9 c10 c11 t12 c13) d h → Ends (EX D) (u_at kl_193) (105, [some (.ref a0), some (.int x1), some (.int x2), some (.int t10), none], [], h) QQ := by
        intro h hW
        have hF := hK
        refine en_segs [(105, .aload_n 0, []), (106, .iload_n 2, [])] (by decide +kernel) (y := (107, [some (.ref a0), some (.int x1), some (.int x2), some (.int t10), none], [.int x2, .ref a0], h)) rfl ?_
        obtain ⟨r14, hr14, hF⟩ := ob_some hF
        refine en_vi (r := []) (by decide +kernel : u_at kl_193 107 = some (.invokevirtual 213, [186, 1, 12])) hW ha0 rfl rfl (Nat.le_of_ble_eq_true rfl) (e_186 (D := D) (by omega) hW ha0 hr14) (fun h hW => ?_)
        have hW : HW (mkw c0 c1 c2 c3 c4 c5 c6 c7 c8 c9 c10 c11 r14.2 c13) d h := hW
        refine en_if_ne (by decide +kernel : u_at kl_193 110 = some (.ifCond .ne 5, [115])) (fun b15 => ?_) (fun b15 => ?_)
        · replace hF := i_pos b15 hF
          refine en_segs [(113, .iconst 0, [])] (by decide +kernel) (y := (114, [some (.ref a0), some (.int x1), some (.int x2), some (.int t10), none], [.int 0], h)) rfl ?_
          obtain rfl := Option.some.inj hF
          exact en_ret (by decide +kernel : u_at kl_193 114 = some (.ireturn, [1])) rfl (hQ _ hW)
        · replace hF := i_neg b15 hF
          refine en_segs [(115, .iload_n 1, []), (116, .bipush 60, [])] (by decide +kernel) (y := (118, [some (.ref a0), some (.int x1), some (.int x2), some (.int t10), none], [.int 60, .int x1], h)) rfl ?_
          obtain ⟨t16, hX, hK⟩ := ob_some hF
          have j17 : ∀ h : UH, HW (mkw c0 c1 c2 c3 c4 c5 c6 c7 c8 c9 c10 c11 r14.2 c13) d h → Ends (EX D) (u_at kl_193) (152, [some (.ref a0), some (.int x1), some (.int x2), some (.int t10), none], [.int t16], h) QQ := by
            intro h hW
            have hF := hK
            refine en_segs [(152, .istore 4, []), (154, .aload_n 0, [])] (by decide +kernel) (y := (155, [some (.ref a0), some (.int x1), some (.int x2), some (.int t10), some (.int t16)], [.ref a0], h)) rfl ?_
            obtain ⟨r18, hr18, hF⟩ := ob_some hF
            refine en_vi (r := []) (by decide +kernel : u_at kl_193 155 = some (.invokevirtual 226, [192, 0, 12])) hW ha0 rfl rfl (Nat.le_of_ble_eq_true rfl) (e_192 (D := D) (by omega) hW ha0 hr18) (fun h hW => ?_)
            have hW : HW (mkw c0 c1 c2 c3 c4 c5 c6 c7 c8 c9 c10 c11 r18.2 c13) d h := hW
            refine en_if_ne (by decide +kernel : u_at kl_193 158 = some (.ifCond .ne 5, [163])) (fun b19 => ?_) (fun b19 => ?_)
            · replace hF := i_pos b19 hF
              refine en_segs [(161, .iconst 0, [])] (by decide +kernel) (y := (162, [some (.ref a0), some (.int x1), some (.int x2), some (.int t10), some (.int t16)], [.int 0], h)) rfl ?_
              obtain rfl := Option.some.inj hF
              exact en_ret (by decide +kernel : u_at kl_193 162 = some (.ireturn, [1])) rfl (hQ _ hW)
            · replace hF := i_neg b19 hF
              refine en_segs [(163, .aload_n 0, []), (164, .bipush 6, []), (166, .iload 4, []), (168, .iadd, []), (169, .iconst 0, [])] (by decide +kernel) (y := (170, [some (.ref a0), some (.int x1), some (.int x2), some (.int t10), some (.int t16)], [.int 0, .int (6 + t16), .ref a0], h)) rfl ?_
              obtain ⟨r20, hr20, hF⟩ := ob_some hF
              refine en_vv (r := []) (by decide +kernel : u_at kl_193 170 = some (.invokevirtual 205, [185, 2, 12])) hW ha0 rfl rfl (Nat.le_of_ble_eq_true rfl) (e_185 (D := D) (by omega) hW ha0 hr20) (fun h hW => ?_)
              have hW : HW (mkw c0 c1 c2 c3 c4 c5 c6 c7 c8 c9 c10 c11 r20 c13) d h := hW
              refine en_segs [(173, .iconst 1, [])] (by decide +kernel) (y := (174, [some (.ref a0), some (.int x1), some (.int x2), some (.int t10), some (.int t16)], [.int 1], h)) rfl ?_
              obtain rfl := Option.some.inj hF
              exact en_ret (by decide +kernel : u_at kl_193 174 = some (.ireturn, [1])) rfl (hQ _ hW)
          have hF := hX
          refine en_ic_ne (by decide +kernel : u_at kl_193 118 = some (.if_icmp .ne 15, [133])) (fun b21 => ?_) (fun b21 => ?_)
          · replace hF := i_pos b21 hF
            refine en_segs [(121, .iload_n 3, [])] (by decide +kernel) (y := (122, [some (.ref a0), some (.int x1), some (.int x2), some (.int t10), none], [.int t10], h)) rfl ?_
            refine en_if_eq (by decide +kernel : u_at kl_193 122 = some (.ifCond .eq 7, [129])) (fun b22 => ?_) (fun b22 => ?_)
            · replace hF := i_pos b22 hF
              refine en_segs [(129, .iconst 0, []), (130, .goto 22, [152])] (by decide +kernel) (y := (152, [some (.ref a0), some (.int x1), some (.int x2), some (.int t10), none], [.int 0], h)) rfl ?_
              obtain rfl := Option.some.inj hF
              exact j17 _ hW
            · replace hF := i_neg b22 hF
              refine en_segs [(125, .iconst 1, []), (126, .goto 26, [152])] (by decide +kernel) (y := (152, [some (.ref a0), some (.int x1), some (.int x2), some (.int t10), none], [.int 1], h)) rfl ?_
              obtain rfl := Option.some.inj hF
              exact j17 _ hW
          · replace hF := i_neg b21 hF
            refine en_segs [(133, .iload_n 1, []), (134, .bipush 61, [])] (by decide +kernel) (y := (136, [some (.ref a0), some (.int x1), some (.int x2), some (.int t10), none], [.int 61, .int x1], h)) rfl ?_
            refine en_ic_ne (by decide +kernel : u_at kl_193 136 = some (.if_icmp .ne 7, [143])) (fun b23 => ?_) (fun b23 => ?_)
            · replace hF := i_pos b23 hF
              refine en_segs [(139, .iconst 2, []), (140, .goto 12, [152])] (by decide +kernel) (y := (152, [some (.ref a0), some (.int x1), some (.int x2), some (.int t10), none], [.int 2], h)) rfl ?_
              obtain rfl := Option.some.inj hF
              exact j17 _ hW
            · replace hF := i_neg b23 hF
              refine en_segs [(143, .iload_n 3, [])] (by decide +kernel) (y := (144, [some (.ref a0), some (.int x1), some (.int x2), some (.int t10), none], [.int t10], h)) rfl ?_
              refine en_if_eq (by decide +kernel : u_at kl_193 144 = some (.ifCond .eq 7, [151])) (fun b24 => ?_) (fun b24 => ?_)
              · replace hF := i_pos b24 hF
                refine en_segs [(151, .iconst 4, [])] (by decide +kernel) (y := (152, [some (.ref a0), some (.int x1), some (.int x2), some (.int t10), none], [.int 4], h)) rfl ?_
                obtain rfl := Option.some.inj hF
                exact j17 _ hW
              · replace hF := i_neg b24 hF
                refine en_segs [(147, .iconst 3, []), (148, .goto 4, [152])] (by decide +kernel) (y := (152, [some (.ref a0), some (.int x1), some (.int x2), some (.int t10), none], [.int 3], h)) rfl ?_
                obtain rfl := Option.some.inj hF
                exact j17 _ hW
      have hF := hX
      refine en_if_eq (by decide +kernel : u_at kl_193 92 = some (.ifCond .eq 13, [105])) (fun b25 => ?_) (fun b25 => ?_)
      · replace hF := i_pos b25 hF
        obtain rfl := Option.some.inj hF
        exact j13 _ hW
      · replace hF := i_neg b25 hF
        refine en_segs [(95, .aload_n 0, []), (96, .dup, [])] (by decide +kernel) (y := (97, [some (.ref a0), some (.int x1), some (.int x2), some (.int t10), none], [.ref a0, .ref a0], h)) rfl ?_
        refine en_get (by decide +kernel : u_at kl_193 97 = some (.getfield 133, [12, 8])) hW ha0 (by decide) rfl ?_
        refine en_segs [(100, .iconst 1, []), (101, .iadd, [])] (by decide +kernel) (y := (102, [some (.ref a0), some (.int x1), some (.int x2), some (.int t10), none], [.int ((cI c12_9 8 a0) + 1), .ref a0], h)) rfl ?_
        obtain ⟨c12_26, hc12_26, hF⟩ := ob_some hF
        refine en_putI (by decide +kernel : u_at kl_193 102 = some (.putfield 133, [12, 8, 0])) hW ha0 rfl (by decide) rfl (fun h hW => ?_)
        have hW : HW (mkw c0 c1 c2 c3 c4 c5 c6 c7 c8 c9 c10 c11 c12_26 c13) d h := by rw [← Option.some.inj hc12_26]; exact hW
        obtain rfl := Option.some.inj hF
        exact j13 _ hW
    have hF := hX
    refine en_ic_eq (by decide +kernel : u_at kl_193 57 = some (.if_icmp .eq 32, [89])) (fun b27 => ?_) (fun b27 => ?_)
    · replace hF := i_pos b27 hF
      refine en_segs [(89, .iconst 0, [])] (by decide +kernel) (y := (90, [some (.ref a0), some (.int x1), some (.int x2), none, none], [.int 0], h)) rfl ?_
      obtain rfl := Option.some.inj hF
      exact j11 _ hW
    · replace hF := i_neg b27 hF
      refine en_segs [(60, .aload_n 0, [])] (by decide +kernel) (y := (61, [some (.ref a0), some (.int x1), some (.int x2), none, none], [.ref a0], h)) rfl ?_
      refine en_get (by decide +kernel : u_at kl_193 61 = some (.getfield 133, [12, 8])) hW ha0 (by decide) rfl ?_
      refine en_segs [(64, .aload_n 0, [])] (by decide +kernel) (y := (65, [some (.ref a0), some (.int x1), some (.int x2), none, none], [.ref a0, .int (cI c12_9 8 a0)], h)) rfl ?_
      refine en_get (by decide +kernel : u_at kl_193 65 = some (.getfield 122, [12, 1])) hW ha0 (by decide) rfl ?_
      refine en_ic_ge (by decide +kernel : u_at kl_193 68 = some (.if_icmp .ge 21, [89])) (fun b28 => ?_) (fun b28 => ?_)
      · replace hF := i_pos b28 hF
        refine en_segs [(89, .iconst 0, [])] (by decide +kernel) (y := (90, [some (.ref a0), some (.int x1), some (.int x2), none, none], [.int 0], h)) rfl ?_
        obtain rfl := Option.some.inj hF
        exact j11 _ hW
      · replace hF := i_neg b28 hF
        refine en_segs [(71, .aload_n 0, [])] (by decide +kernel) (y := (72, [some (.ref a0), some (.int x1), some (.int x2), none, none], [.ref a0], h)) rfl ?_
        refine en_get (by decide +kernel : u_at kl_193 72 = some (.getfield 7, [12, 0])) hW ha0 (by decide) rfl ?_
        refine en_segs [(75, .aload_n 0, [])] (by decide +kernel) (y := (76, [some (.ref a0), some (.int x1), some (.int x2), none, none], [.ref a0, .ref (aP d 12 0 a0)], h)) rfl ?_
        refine en_get (by decide +kernel : u_at kl_193 76 = some (.getfield 133, [12, 8])) hW ha0 (by decide) rfl ?_
        obtain ⟨v29, hv29, hF⟩ := ob_some hF
        refine en_bald (by decide +kernel : u_at kl_193 79 = some (.baload, [])) hW ha0 rfl (by decide) hv29 ?_
        refine en_segs [(80, .bipush 61, [])] (by decide +kernel) (y := (82, [some (.ref a0), some (.int x1), some (.int x2), none, none], [.int 61, .int v29], h)) rfl ?_
        refine en_ic_ne (by decide +kernel : u_at kl_193 82 = some (.if_icmp .ne 7, [89])) (fun b30 => ?_) (fun b30 => ?_)
        · replace hF := i_pos b30 hF
          refine en_segs [(85, .iconst 1, []), (86, .goto 4, [90])] (by decide +kernel) (y := (90, [some (.ref a0), some (.int x1), some (.int x2), none, none], [.int 1], h)) rfl ?_
          obtain rfl := Option.some.inj hF
          exact j11 _ hW
        · replace hF := i_neg b30 hF
          refine en_segs [(89, .iconst 0, [])] (by decide +kernel) (y := (90, [some (.ref a0), some (.int x1), some (.int x2), none, none], [.int 0], h)) rfl ?_
          obtain rfl := Option.some.inj hF
          exact j11 _ hW
def F_193 (c12 : Cl) (a0 : Nat) : Option (Int32 × Cl) :=
  F_192 c12 a0 >>= fun r1 =>
  if r1.1 = 0 then
  some (0, r1.2)
  else
  F_177 r1.2 a0 >>= fun r3 =>
  if r3.1 = 60 then
  G_193 r3.2 a0 0 [r3.1, cI r3.2 8 a0] [] []
  else
  if r3.1 = 61 then
  G_193 r3.2 a0 0 [r3.1, cI r3.2 8 a0] [] []
  else
  if r3.1 = 62 then
  G_193 r3.2 a0 0 [r3.1, cI r3.2 8 a0] [] []
  else
  F_176 r3.2 a0 0 (cI r3.2 8 a0) >>= fun r7 =>
  zb r7.1 >>= fun z8 => some (z8, r7.2)
set_option maxRecDepth 100000 in
set_option maxHeartbeats 4000000 in
/-- HeadCountsModel.compare -/
theorem e_193 {D : Nat} {c0 c1 c2 c3 c4 c5 c6 c7 c8 c9 c10 c11 c12 c13 : Cl} {d : Ad} {h : UH} {a0 : Nat} {r : (Int32 × Cl)} (hD : 7 ≤ D) (hW : HW (mkw c0 c1 c2 c3 c4 c5 c6 c7 c8 c9 c10 c11 c12 c13) d h) (ha0 : aK d a0 = (0, 12, 0)) (hF : F_193 c12 a0 = some r) : ∃ q, EX D 193 [.ref a0] h q ∧ q.1 = some (.int r.1) ∧ HW (mkw c0 c1 c2 c3 c4 c5 c6 c7 c8 c9 c10 c11 r.2 c13) d q.2 := by
  obtain ⟨D, rfl⟩ : ∃ E, D = E + 1 := ⟨D - 1, by omega⟩
  unfold F_193 at hF
  refine ex_in (kl := kl_193) (nL := 5) rfl (by decide +kernel) (Nat.le_of_ble_eq_true rfl) ?_
  obtain ⟨QQ, hQQ⟩ : ∃ QQ : UR → Prop, QQ = (fun q : UR => q.1 = some (.int r.1) ∧ HW (mkw c0 c1 c2 c3 c4 c5 c6 c7 c8 c9 c10 c11 r.2 c13) d q.2) := ⟨_, rfl⟩
  rw [← hQQ]
  have hQ : ∀ h' : UH, HW (mkw c0 c1 c2 c3 c4 c5 c6 c7 c8 c9 c10 c11 r.2 c13) d h' → QQ (some (.int r.1), h') := fun h' p => by rw [hQQ]; exact ⟨rfl, p⟩
  clear hQQ
  show Ends (EX D) (u_at kl_193) (0, [some (.ref a0), none, none, none, none], [], h) QQ
  refine en_segs [(0, .aload_n 0, [])] (by decide +kernel) (y := (1, [some (.ref a0), none, none, none, none], [.ref a0], h)) rfl ?_
  obtain ⟨r1, hr1, hF⟩ := ob_some hF
  refine en_vi (r := []) (by decide +kernel : u_at kl_193 1 = some (.invokevirtual 226, [192, 0, 12])) hW ha0 rfl rfl (Nat.le_of_ble_eq_true rfl) (e_192 (D := D) (by omega) hW ha0 hr1) (fun h hW => ?_)
  have hW : HW (mkw c0 c1 c2 c3 c4 c5 c6 c7 c8 c9 c10 c11 r1.2 c13) d h := hW
  refine en_if_ne (by decide +kernel : u_at kl_193 4 = some (.ifCond .ne 5, [9])) (fun b2 => ?_) (fun b2 => ?_)
  · replace hF := i_pos b2 hF
    refine en_segs [(7, .iconst 0, [])] (by decide +kernel) (y := (8, [some (.ref a0), none, none, none, none], [.int 0], h)) rfl ?_
    obtain rfl := Option.some.inj hF
    exact en_ret (by decide +kernel : u_at kl_193 8 = some (.ireturn, [1])) rfl (hQ _ hW)
  · replace hF := i_neg b2 hF
    refine en_segs [(9, .aload_n 0, [])] (by decide +kernel) (y := (10, [some (.ref a0), none, none, none, none], [.ref a0], h)) rfl ?_
    obtain ⟨r3, hr3, hF⟩ := ob_some hF
    refine en_vi (r := []) (by decide +kernel : u_at kl_193 10 = some (.invokevirtual 136, [177, 0, 12])) hW ha0 rfl rfl (Nat.le_of_ble_eq_true rfl) (e_177 (D := D) (by omega) hW ha0 hr3) (fun h hW => ?_)
    have hW : HW (mkw c0 c1 c2 c3 c4 c5 c6 c7 c8 c9 c10 c11 r3.2 c13) d h := hW
    refine en_segs [(13, .istore_n 1, []), (14, .aload_n 0, [])] (by decide +kernel) (y := (15, [some (.ref a0), some (.int r3.1), none, none, none], [.ref a0], h)) rfl ?_
    refine en_get (by decide +kernel : u_at kl_193 15 = some (.getfield 133, [12, 8])) hW ha0 (by decide) rfl ?_
    refine en_segs [(18, .istore_n 2, []), (19, .iload_n 1, []), (20, .bipush 60, [])] (by decide +kernel) (y := (22, [some (.ref a0), some (.int r3.1), some (.int (cI r3.2 8 a0)), none, none], [.int 60, .int r3.1], h)) rfl ?_
    refine en_ic_eq (by decide +kernel : u_at kl_193 22 = some (.if_icmp .eq 22, [44])) (fun b4 => ?_) (fun b4 => ?_)
    · replace hF := i_pos b4 hF
      exact (g_193 (D := D) hD ha0 _ _ _ _ _ hF) _ _ rfl rfl rfl rfl  _ hW _ hQ
    · replace hF := i_neg b4 hF
      refine en_segs [(25, .iload_n 1, []), (26, .bipush 61, [])] (by decide +kernel) (y := (28, [some (.ref a0), some (.int r3.1), some (.int (cI r3.2 8 a0)), none, none], [.int 61, .int r3.1], h)) rfl ?_
      refine en_ic_eq (by decide +kernel : u_at kl_193 28 = some (.if_icmp .eq 16, [44])) (fun b5 => ?_) (fun b5 => ?_)
      · replace hF := i_pos b5 hF
        exact (g_193 (D := D) hD ha0 _ _ _ _ _ hF) _ _ rfl rfl rfl rfl  _ hW _ hQ
      · replace hF := i_neg b5 hF
        refine en_segs [(31, .iload_n 1, []), (32, .bipush 62, [])] (by decide +kernel) (y := (34, [some (.ref a0), some (.int r3.1), some (.int (cI r3.2 8 a0)), none, none], [.int 62, .int r3.1], h)) rfl ?_
        refine en_ic_eq (by decide +kernel : u_at kl_193 34 = some (.if_icmp .eq 10, [44])) (fun b6 => ?_) (fun b6 => ?_)
        · replace hF := i_pos b6 hF
          exact (g_193 (D := D) hD ha0 _ _ _ _ _ hF) _ _ rfl rfl rfl rfl  _ hW _ hQ
        · replace hF := i_neg b6 hF
          refine en_segs [(37, .aload_n 0, []), (38, .iconst 0, []), (39, .iload_n 2, [])] (by decide +kernel) (y := (40, [some (.ref a0), some (.int r3.1), some (.int (cI r3.2 8 a0)), none, none], [.int (cI r3.2 8 a0), .int 0, .ref a0], h)) rfl ?_
          obtain ⟨r7, hr7, hF⟩ := ob_some hF
          refine en_vi (r := []) (by decide +kernel : u_at kl_193 40 = some (.invokevirtual 154, [176, 2, 12])) hW ha0 rfl rfl (Nat.le_of_ble_eq_true rfl) (e_176 (D := D) (by omega) hW ha0 hr7) (fun h hW => ?_)
          have hW : HW (mkw c0 c1 c2 c3 c4 c5 c6 c7 c8 c9 c10 c11 r7.2 c13) d h := hW
          obtain ⟨z8, hz8, hF⟩ := ob_some hF
          obtain rfl := Option.some.inj hF
          exact en_retZ (by decide +kernel : u_at kl_193 43 = some (.ireturn, [1])) hz8 (hQ _ hW)
def G_194 (a0 : Nat) (lab : Nat) (xs : List Int32) (ys : List Int64) (zs : List Nat) (c12 : Cl) : Option (Int32 × Cl) := match lab, xs, ys, zs with
  | 0, [x1], [], [] =>
    if x1 = 0 then
    F_193 c12 a0 >>= fun r2 =>
    zb r2.1 >>= fun z3 => some (z3, r2.2)
    else
    F_177 c12 a0 >>= fun r4 =>
    F_180 r4.2 a0 7237492 >>= fun r5 =>
    if r5.1 = 0 then
    if r4.1 = 91 then
    F_187 r5.2 a0 91 >>= fun r8 =>
    if r8.1 = 0 then
    some (0, r8.2)
    else
    some (sI r8.2 8 a0 ((cI r8.2 8 a0) + 1)) >>= fun c12_10 =>
    G_194 a0 0 [1] [] [] c12_10
    else
    G_194 a0 0 [0] [] [] r5.2
    else
    F_187 r5.2 a0 11 >>= fun r11 =>
    if r11.1 = 0 then
    some (0, r11.2)
    else
    F_181 r11.2 a0 >>= fun r13 =>
    G_194 a0 0 [1] [] [] r13
  | _, _, _, _ => none
partial_fixpoint
set_option maxRecDepth 100000 in
set_option maxHeartbeats 4000000 in
theorem g_194 {D : Nat} (hD : 8 ≤ D + 1) {c0 c1 c2 c3 c4 c5 c6 c7 c8 c9 c10 c11 c13 : Cl} {d : Ad} {a0 : Nat} (ha0 : aK d a0 = (0, 12, 0)) : ∀ (lab : Nat) (xs : List Int32) (ys : List Int64) (zs : List Nat) (c12 : Cl) (r : (Int32 × Cl)), G_194 a0 lab xs ys zs c12 = some r →
    (∀ (x1 : Int32), lab = 0 → xs = [x1] → ys = [] → zs = [] → ∀ h : UH, HW (mkw c0 c1 c2 c3 c4 c5 c6 c7 c8 c9 c10 c11 c12 c13) d h → ∀ QQ : UR → Prop, (∀ h' : UH, HW (mkw c0 c1 c2 c3 c4 c5 c6 c7 c8 c9 c10 c11 r.2 c13) d h' → QQ (some (.int r.1), h')) → Ends (EX D) (u_at kl_194) (2, [some (.ref a0), some (.int x1), none], [], h) QQ) := by
  refine G_194.partial_correctness _ (motive := fun lab xs ys zs c12 r =>
    (∀ (x1 : Int32), lab = 0 → xs = [x1] → ys = [] → zs = [] → ∀ h : UH, HW (mkw c0 c1 c2 c3 c4 c5 c6 c7 c8 c9 c10 c11 c12 c13) d h → ∀ QQ : UR → Prop, (∀ h' : UH, HW (mkw c0 c1 c2 c3 c4 c5 c6 c7 c8 c9 c10 c11 r.2 c13) d h' → QQ (some (.int r.1), h')) → Ends (EX D) (u_at kl_194) (2, [some (.ref a0), some (.int x1), none], [], h) QQ)) ?_
  intro G ih lab xs ys zs c12 r hF
  · intro x1 e1 e2 e3 e4 h hW QQ hQ
    subst e1 e2 e3 e4
    refine en_segs [(2, .iload_n 1, [])] (by decide +kernel) (y := (3, [some (.ref a0), some (.int x1), none], [.int x1], h)) rfl ?_
    refine en_if_eq (by decide +kernel : u_at kl_194 3 = some (.ifCond .eq 72, [75])) (fun b1 => ?_) (fun b1 => ?_)
    · replace hF := i_pos b1 hF
      refine en_segs [(75, .aload_n 0, [])] (by decide +kernel) (y := (76, [some (.ref a0), some (.int x1), none], [.ref a0], h)) rfl ?_
      obtain ⟨r2, hr2, hF⟩ := ob_some hF
      refine en_vi (r := []) (by decide +kernel : u_at kl_194 76 = some (.invokevirtual 234, [193, 0, 12])) hW ha0 rfl rfl (Nat.le_of_ble_eq_true rfl) (e_193 (D := D) (by omega) hW ha0 hr2) (fun h hW => ?_)
      have hW : HW (mkw c0 c1 c2 c3 c4 c5 c6 c7 c8 c9 c10 c11 r2.2 c13) d h := hW
      obtain ⟨z3, hz3, hF⟩ := ob_some hF
      obtain rfl := Option.some.inj hF
      exact en_retZ (by decide +kernel : u_at kl_194 79 = some (.ireturn, [1])) hz3 (hQ _ hW)
    · replace hF := i_neg b1 hF
      refine en_segs [(6, .iconst 0, []), (7, .istore_n 1, []), (8, .aload_n 0, [])] (by decide +kernel) (y := (9, [some (.ref a0), some (.int 0), none], [.ref a0], h)) rfl ?_
      obtain ⟨r4, hr4, hF⟩ := ob_some hF
      refine en_vi (r := []) (by decide +kernel : u_at kl_194 9 = some (.invokevirtual 136, [177, 0, 12])) hW ha0 rfl rfl (Nat.le_of_ble_eq_true rfl) (e_177 (D := D) (by omega) hW ha0 hr4) (fun h hW => ?_)
      have hW : HW (mkw c0 c1 c2 c3 c4 c5 c6 c7 c8 c9 c10 c11 r4.2 c13) d h := hW
      refine en_segs [(12, .istore_n 2, []), (13, .aload_n 0, []), (14, .ldc2_w 229, [7237492])] (by decide +kernel) (y := (17, [some (.ref a0), some (.int 0), some (.int r4.1)], [.long 7237492, .ref a0], h)) rfl ?_
      obtain ⟨r5, hr5, hF⟩ := ob_some hF
      refine en_vi (r := []) (by decide +kernel : u_at kl_194 17 = some (.invokevirtual 144, [180, 1, 12])) hW ha0 rfl rfl (Nat.le_of_ble_eq_true rfl) (e_180 (D := D) (by omega) hW ha0 hr5) (fun h hW => ?_)
      have hW : HW (mkw c0 c1 c2 c3 c4 c5 c6 c7 c8 c9 c10 c11 r5.2 c13) d h := hW
      refine en_if_eq (by decide +kernel : u_at kl_194 20 = some (.ifCond .eq 23, [43])) (fun b6 => ?_) (fun b6 => ?_)
      · replace hF := i_pos b6 hF
        refine en_segs [(43, .iload_n 2, []), (44, .bipush 91, [])] (by decide +kernel) (y := (46, [some (.ref a0), some (.int 0), some (.int r4.1)], [.int 91, .int r4.1], h)) rfl ?_
        refine en_ic_ne (by decide +kernel : u_at kl_194 46 = some (.if_icmp .ne 26, [72])) (fun b7 => ?_) (fun b7 => ?_)
        · replace hF := i_pos b7 hF
          refine en_segs [(49, .aload_n 0, []), (50, .bipush 91, [])] (by decide +kernel) (y := (52, [some (.ref a0), some (.int 0), some (.int r4.1)], [.int 91, .ref a0], h)) rfl ?_
          obtain ⟨r8, hr8, hF⟩ := ob_some hF
          refine en_vi (r := []) (by decide +kernel : u_at kl_194 52 = some (.invokevirtual 231, [187, 1, 12])) hW ha0 rfl rfl (Nat.le_of_ble_eq_true rfl) (e_187 (D := D) (by omega) hW ha0 hr8) (fun h hW => ?_)
          have hW : HW (mkw c0 c1 c2 c3 c4 c5 c6 c7 c8 c9 c10 c11 r8.2 c13) d h := hW
          refine en_if_ne (by decide +kernel : u_at kl_194 55 = some (.ifCond .ne 5, [60])) (fun b9 => ?_) (fun b9 => ?_)
          · replace hF := i_pos b9 hF
            refine en_segs [(58, .iconst 0, [])] (by decide +kernel) (y := (59, [some (.ref a0), some (.int 0), some (.int r4.1)], [.int 0], h)) rfl ?_
            obtain rfl := Option.some.inj hF
            exact en_ret (by decide +kernel : u_at kl_194 59 = some (.ireturn, [1])) rfl (hQ _ hW)
          · replace hF := i_neg b9 hF
            refine en_segs [(60, .aload_n 0, []), (61, .dup, [])] (by decide +kernel) (y := (62, [some (.ref a0), some (.int 0), some (.int r4.1)], [.ref a0, .ref a0], h)) rfl ?_
            refine en_get (by decide +kernel : u_at kl_194 62 = some (.getfield 133, [12, 8])) hW ha0 (by decide) rfl ?_
            refine en_segs [(65, .iconst 1, []), (66, .iadd, [])] (by decide +kernel) (y := (67, [some (.ref a0), some (.int 0), some (.int r4.1)], [.int ((cI r8.2 8 a0) + 1), .ref a0], h)) rfl ?_
            obtain ⟨c12_10, hc12_10, hF⟩ := ob_some hF
            refine en_putI (by decide +kernel : u_at kl_194 67 = some (.putfield 133, [12, 8, 0])) hW ha0 rfl (by decide) rfl (fun h hW => ?_)
            have hW : HW (mkw c0 c1 c2 c3 c4 c5 c6 c7 c8 c9 c10 c11 c12_10 c13) d h := by rw [← Option.some.inj hc12_10]; exact hW
            refine en_segs [(70, .iconst 1, []), (71, .istore_n 1, []), (72, .goto (-70), [2])] (by decide +kernel) (y := (2, [some (.ref a0), some (.int 1), some (.int r4.1)], [], h)) rfl ?_
            refine en_fg (fg_k (fg_k (fg_d fg_0))) ?_
            exact (ih _ _ _ _ _ _ hF) _ rfl rfl rfl rfl  _ hW _ hQ
        · replace hF := i_neg b7 hF
          refine en_segs [(72, .goto (-70), [2])] (by decide +kernel) (y := (2, [some (.ref a0), some (.int 0), some (.int r4.1)], [], h)) rfl ?_
          refine en_fg (fg_k (fg_k (fg_d fg_0))) ?_
          exact (ih _ _ _ _ _ _ hF) _ rfl rfl rfl rfl  _ hW _ hQ
      · replace hF := i_neg b6 hF
        refine en_segs [(23, .aload_n 0, []), (24, .bipush 11, [])] (by decide +kernel) (y := (26, [some (.ref a0), some (.int 0), some (.int r4.1)], [.int 11, .ref a0], h)) rfl ?_
        obtain ⟨r11, hr11, hF⟩ := ob_some hF
        refine en_vi (r := []) (by decide +kernel : u_at kl_194 26 = some (.invokevirtual 231, [187, 1, 12])) hW ha0 rfl rfl (Nat.le_of_ble_eq_true rfl) (e_187 (D := D) (by omega) hW ha0 hr11) (fun h hW => ?_)
        have hW : HW (mkw c0 c1 c2 c3 c4 c5 c6 c7 c8 c9 c10 c11 r11.2 c13) d h := hW
        refine en_if_ne (by decide +kernel : u_at kl_194 29 = some (.ifCond .ne 5, [34])) (fun b12 => ?_) (fun b12 => ?_)
        · replace hF := i_pos b12 hF
          refine en_segs [(32, .iconst 0, [])] (by decide +kernel) (y := (33, [some (.ref a0), some (.int 0), some (.int r4.1)], [.int 0], h)) rfl ?_
          obtain rfl := Option.some.inj hF
          exact en_ret (by decide +kernel : u_at kl_194 33 = some (.ireturn, [1])) rfl (hQ _ hW)
        · replace hF := i_neg b12 hF
          refine en_segs [(34, .aload_n 0, [])] (by decide +kernel) (y := (35, [some (.ref a0), some (.int 0), some (.int r4.1)], [.ref a0], h)) rfl ?_
          obtain ⟨r13, hr13, hF⟩ := ob_some hF
          refine en_vv (r := []) (by decide +kernel : u_at kl_194 35 = some (.invokevirtual 148, [181, 0, 12])) hW ha0 rfl rfl (Nat.le_of_ble_eq_true rfl) (e_181 (D := D) (by omega) hW ha0 hr13) (fun h hW => ?_)
          have hW : HW (mkw c0 c1 c2 c3 c4 c5 c6 c7 c8 c9 c10 c11 r13 c13) d h := hW
          refine en_segs [(38, .iconst 1, []), (39, .istore_n 1, []), (40, .goto 32, [72]), (72, .goto (-70), [2])] (by decide +kernel) (y := (2, [some (.ref a0), some (.int 1), some (.int r4.1)], [], h)) rfl ?_
          refine en_fg (fg_k (fg_k (fg_d fg_0))) ?_
          exact (ih _ _ _ _ _ _ hF) _ rfl rfl rfl rfl  _ hW _ hQ
def F_194 (c12 : Cl) (a0 : Nat) : Option (Int32 × Cl) :=
  G_194 a0 0 [1] [] [] c12
set_option maxRecDepth 100000 in
set_option maxHeartbeats 4000000 in
/-- HeadCountsModel.fact -/
theorem e_194 {D : Nat} {c0 c1 c2 c3 c4 c5 c6 c7 c8 c9 c10 c11 c12 c13 : Cl} {d : Ad} {h : UH} {a0 : Nat} {r : (Int32 × Cl)} (hD : 8 ≤ D) (hW : HW (mkw c0 c1 c2 c3 c4 c5 c6 c7 c8 c9 c10 c11 c12 c13) d h) (ha0 : aK d a0 = (0, 12, 0)) (hF : F_194 c12 a0 = some r) : ∃ q, EX D 194 [.ref a0] h q ∧ q.1 = some (.int r.1) ∧ HW (mkw c0 c1 c2 c3 c4 c5 c6 c7 c8 c9 c10 c11 r.2 c13) d q.2 := by
  obtain ⟨D, rfl⟩ : ∃ E, D = E + 1 := ⟨D - 1, by omega⟩
  unfold F_194 at hF
  refine ex_in (kl := kl_194) (nL := 3) rfl (by decide +kernel) (Nat.le_of_ble_eq_true rfl) ?_
  obtain ⟨QQ, hQQ⟩ : ∃ QQ : UR → Prop, QQ = (fun q : UR => q.1 = some (.int r.1) ∧ HW (mkw c0 c1 c2 c3 c4 c5 c6 c7 c8 c9 c10 c11 r.2 c13) d q.2) := ⟨_, rfl⟩
  rw [← hQQ]
  have hQ : ∀ h' : UH, HW (mkw c0 c1 c2 c3 c4 c5 c6 c7 c8 c9 c10 c11 r.2 c13) d h' → QQ (some (.int r.1), h') := fun h' p => by rw [hQQ]; exact ⟨rfl, p⟩
  clear hQQ
  show Ends (EX D) (u_at kl_194) (0, [some (.ref a0), none, none], [], h) QQ
  refine en_segs [(0, .iconst 1, []), (1, .istore_n 1, [])] (by decide +kernel) (y := (2, [some (.ref a0), some (.int 1), none], [], h)) rfl ?_
  exact (g_194 (D := D) hD ha0 _ _ _ _ _ _ hF) _ rfl rfl rfl rfl  _ hW _ hQ
def G_195 (c12 : Cl) (a0 : Nat) (lab : Nat) (xs : List Int32) (ys : List Int64) (zs : List Nat) : Option Int32 := match lab, xs, ys, zs with
  | 0, [x1], [], [] =>
    if (cI c12 16 a0) ≤ x1 then
    some 0
    else
    ald (cA c12 15 a0) 400 x1 >>= fun v2 =>
    if v2 = 91 then
    some 1
    else
    G_195 c12 a0 0 [x1 + 1] [] []
  | _, _, _, _ => none
partial_fixpoint
set_option maxRecDepth 100000 in
set_option maxHeartbeats 4000000 in
theorem g_195 {D : Nat} (hD : 1 ≤ D + 1) {c0 c1 c2 c3 c4 c5 c6 c7 c8 c9 c10 c11 c12 c13 : Cl} {d : Ad} {a0 : Nat} (ha0 : aK d a0 = (0, 12, 0)) : ∀ (lab : Nat) (xs : List Int32) (ys : List Int64) (zs : List Nat) (r : Int32), G_195 c12 a0 lab xs ys zs = some r →
    (∀ (x1 : Int32), lab = 0 → xs = [x1] → ys = [] → zs = [] → ∀ h : UH, HW (mkw c0 c1 c2 c3 c4 c5 c6 c7 c8 c9 c10 c11 c12 c13) d h → ∀ QQ : UR → Prop, QQ (some (.int r), h) → Ends (EX D) (u_at kl_195) (2, [some (.ref a0), some (.int x1)], [], h) QQ) := by
  refine G_195.partial_correctness _ _ (motive := fun lab xs ys zs r =>
    (∀ (x1 : Int32), lab = 0 → xs = [x1] → ys = [] → zs = [] → ∀ h : UH, HW (mkw c0 c1 c2 c3 c4 c5 c6 c7 c8 c9 c10 c11 c12 c13) d h → ∀ QQ : UR → Prop, QQ (some (.int r), h) → Ends (EX D) (u_at kl_195) (2, [some (.ref a0), some (.int x1)], [], h) QQ)) ?_
  intro G ih lab xs ys zs r hF
  · intro x1 e1 e2 e3 e4 h hW QQ hQ
    subst e1 e2 e3 e4
    refine en_segs [(2, .iload_n 1, []), (3, .aload_n 0, [])] (by decide +kernel) (y := (4, [some (.ref a0), some (.int x1)], [.ref a0, .int x1], h)) rfl ?_
    refine en_get (by decide +kernel : u_at kl_195 4 = some (.getfield 198, [12, 16])) hW ha0 (by decide) rfl ?_
    refine en_ic_ge (by decide +kernel : u_at kl_195 7 = some (.if_icmp .ge 22, [29])) (fun b1 => ?_) (fun b1 => ?_)
    · replace hF := i_pos b1 hF
      refine en_segs [(29, .iconst 0, [])] (by decide +kernel) (y := (30, [some (.ref a0), some (.int x1)], [.int 0], h)) rfl ?_
      obtain rfl := Option.some.inj hF
      exact en_ret (by decide +kernel : u_at kl_195 30 = some (.ireturn, [1])) rfl (hQ)
    · replace hF := i_neg b1 hF
      refine en_segs [(10, .aload_n 0, [])] (by decide +kernel) (y := (11, [some (.ref a0), some (.int x1)], [.ref a0], h)) rfl ?_
      refine en_get (by decide +kernel : u_at kl_195 11 = some (.getfield 29, [12, 15])) hW ha0 (by decide) rfl ?_
      refine en_segs [(14, .iload_n 1, [])] (by decide +kernel) (y := (15, [some (.ref a0), some (.int x1)], [.int x1, .ref (aP d 12 15 a0)], h)) rfl ?_
      obtain ⟨v2, hv2, hF⟩ := ob_some hF
      refine en_iald (by decide +kernel : u_at kl_195 15 = some (.iaload, [])) hW ha0 rfl (by decide) hv2 ?_
      refine en_segs [(16, .bipush 91, [])] (by decide +kernel) (y := (18, [some (.ref a0), some (.int x1)], [.int 91, .int v2], h)) rfl ?_
      refine en_ic_ne (by decide +kernel : u_at kl_195 18 = some (.if_icmp .ne 5, [23])) (fun b3 => ?_) (fun b3 => ?_)
      · replace hF := i_pos b3 hF
        refine en_segs [(21, .iconst 1, [])] (by decide +kernel) (y := (22, [some (.ref a0), some (.int x1)], [.int 1], h)) rfl ?_
        obtain rfl := Option.some.inj hF
        exact en_ret (by decide +kernel : u_at kl_195 22 = some (.ireturn, [1])) rfl (hQ)
      · replace hF := i_neg b3 hF
        refine en_segs [(23, .iinc 1 1, []), (26, .goto (-24), [2])] (by decide +kernel) (y := (2, [some (.ref a0), some (.int (x1 + 1))], [], h)) rfl ?_
        exact (ih _ _ _ _ _ hF) _ rfl rfl rfl rfl  _ hW _ hQ
def F_195 (c12 : Cl) (a0 : Nat) : Option Int32 :=
  G_195 c12 a0 0 [0] [] []
set_option maxRecDepth 100000 in
set_option maxHeartbeats 4000000 in
/-- HeadCountsModel.isInside -/
theorem e_195 {D : Nat} {c0 c1 c2 c3 c4 c5 c6 c7 c8 c9 c10 c11 c12 c13 : Cl} {d : Ad} {h : UH} {a0 : Nat} {r : Int32} (hD : 1 ≤ D) (hW : HW (mkw c0 c1 c2 c3 c4 c5 c6 c7 c8 c9 c10 c11 c12 c13) d h) (ha0 : aK d a0 = (0, 12, 0)) (hF : F_195 c12 a0 = some r) : ∃ q, EX D 195 [.ref a0] h q ∧ q.1 = some (.int r) ∧ h = q.2 := by
  obtain ⟨D, rfl⟩ : ∃ E, D = E + 1 := ⟨D - 1, by omega⟩
  unfold F_195 at hF
  refine ex_in (kl := kl_195) (nL := 2) rfl (by decide +kernel) (Nat.le_of_ble_eq_true rfl) ?_
  obtain ⟨QQ, hQQ⟩ : ∃ QQ : UR → Prop, QQ = (fun q : UR => q.1 = some (.int r) ∧ h = q.2) := ⟨_, rfl⟩
  rw [← hQQ]
  have hQ : QQ (some (.int r), h) := by rw [hQQ]; exact ⟨rfl, rfl⟩
  clear hQQ
  show Ends (EX D) (u_at kl_195) (0, [some (.ref a0), none], [], h) QQ
  refine en_segs [(0, .iconst 0, []), (1, .istore_n 1, [])] (by decide +kernel) (y := (2, [some (.ref a0), some (.int 0)], [], h)) rfl ?_
  exact (g_195 (D := D) hD ha0 _ _ _ _ _ hF) _ rfl rfl rfl rfl  _ hW _ hQ
def G_196 (a0 : Nat) (lab : Nat) (xs : List Int32) (ys : List Int64) (zs : List Nat) (c12 : Cl) : Option Cl := match lab, xs, ys, zs with
  | 0, [], [], [] =>
    F_177 c12 a0 >>= fun r2 =>
    if r2.1 = 93 then
    F_195 r2.2 a0 >>= fun r4 =>
    if r4 = 0 then
    some r2.2
    else
    F_189 r2.2 a0 1 >>= fun r6 =>
    some (sI r6 16 a0 ((cI r6 16 a0) - 1)) >>= fun c12_7 =>
    some (sI c12_7 13 a0 ((cI c12_7 13 a0) - 1)) >>= fun c12_8 =>
    some (sI c12_8 8 a0 ((cI c12_8 8 a0) + 1)) >>= fun c12_9 =>
    F_189 c12_9 a0 3 >>= fun r10 =>
    G_196 a0 0 [] [] [] r10
    else
    some r2.2
  | _, _, _, _ => none
partial_fixpoint
set_option maxRecDepth 100000 in
set_option maxHeartbeats 4000000 in
theorem g_196 {D : Nat} (hD : 3 ≤ D + 1) {c0 c1 c2 c3 c4 c5 c6 c7 c8 c9 c10 c11 c13 : Cl} {d : Ad} {a0 : Nat} (ha0 : aK d a0 = (0, 12, 0)) : ∀ (lab : Nat) (xs : List Int32) (ys : List Int64) (zs : List Nat) (c12 : Cl) (r : Cl), G_196 a0 lab xs ys zs c12 = some r →
    (∀ (_ : Unit), lab = 0 → xs = [] → ys = [] → zs = [] → ∀ h : UH, HW (mkw c0 c1 c2 c3 c4 c5 c6 c7 c8 c9 c10 c11 c12 c13) d h → ∀ QQ : UR → Prop, (∀ h' : UH, HW (mkw c0 c1 c2 c3 c4 c5 c6 c7 c8 c9 c10 c11 r c13) d h' → QQ (none, h')) → Ends (EX D) (u_at kl_196) (5, [some (.ref a0)], [], h) QQ) := by
  refine G_196.partial_correctness _ (motive := fun lab xs ys zs c12 r =>
    (∀ (_ : Unit), lab = 0 → xs = [] → ys = [] → zs = [] → ∀ h : UH, HW (mkw c0 c1 c2 c3 c4 c5 c6 c7 c8 c9 c10 c11 c12 c13) d h → ∀ QQ : UR → Prop, (∀ h' : UH, HW (mkw c0 c1 c2 c3 c4 c5 c6 c7 c8 c9 c10 c11 r c13) d h' → QQ (none, h')) → Ends (EX D) (u_at kl_196) (5, [some (.ref a0)], [], h) QQ)) ?_
  intro G ih lab xs ys zs c12 r hF
  · intro _ e1 e2 e3 e4 h hW QQ hQ
    subst e1 e2 e3 e4
    refine en_segs [(5, .aload_n 0, [])] (by decide +kernel) (y := (6, [some (.ref a0)], [.ref a0], h)) rfl ?_
    obtain ⟨r2, hr2, hF⟩ := ob_some hF
    refine en_vi (r := []) (by decide +kernel : u_at kl_196 6 = some (.invokevirtual 136, [177, 0, 12])) hW ha0 rfl rfl (Nat.le_of_ble_eq_true rfl) (e_177 (D := D) (by omega) hW ha0 hr2) (fun h hW => ?_)
    have hW : HW (mkw c0 c1 c2 c3 c4 c5 c6 c7 c8 c9 c10 c11 r2.2 c13) d h := hW
    refine en_segs [(9, .bipush 93, [])] (by decide +kernel) (y := (11, [some (.ref a0)], [.int 93, .int r2.1], h)) rfl ?_
    refine en_ic_ne (by decide +kernel : u_at kl_196 11 = some (.if_icmp .ne 53, [64])) (fun b3 => ?_) (fun b3 => ?_)
    · replace hF := i_pos b3 hF
      refine en_segs [(14, .aload_n 0, [])] (by decide +kernel) (y := (15, [some (.ref a0)], [.ref a0], h)) rfl ?_
      obtain ⟨r4, hr4, hF⟩ := ob_some hF
      refine en_vi (r := []) (by decide +kernel : u_at kl_196 15 = some (.invokevirtual 240, [195, 0, 12])) hW ha0 rfl rfl (Nat.le_of_ble_eq_true rfl) (e_195 (D := D) (by omega) hW ha0 hr4) (fun h' q => ?_)
      subst q
      refine en_if_eq (by decide +kernel : u_at kl_196 18 = some (.ifCond .eq 46, [64])) (fun b5 => ?_) (fun b5 => ?_)
      · replace hF := i_pos b5 hF
        obtain rfl := Option.some.inj hF
        exact en_ret (by decide +kernel : u_at kl_196 64 = some (.return_, [])) rfl (hQ _ hW)
      · replace hF := i_neg b5 hF
        refine en_segs [(21, .aload_n 0, []), (22, .iconst 1, [])] (by decide +kernel) (y := (23, [some (.ref a0)], [.int 1, .ref a0], h)) rfl ?_
        obtain ⟨r6, hr6, hF⟩ := ob_some hF
        refine en_vv (r := []) (by decide +kernel : u_at kl_196 23 = some (.invokevirtual 237, [189, 1, 12])) hW ha0 rfl rfl (Nat.le_of_ble_eq_true rfl) (e_189 (D := D) (by omega) hW ha0 hr6) (fun h hW => ?_)
        have hW : HW (mkw c0 c1 c2 c3 c4 c5 c6 c7 c8 c9 c10 c11 r6 c13) d h := hW
        refine en_segs [(26, .aload_n 0, []), (27, .dup, [])] (by decide +kernel) (y := (28, [some (.ref a0)], [.ref a0, .ref a0], h)) rfl ?_
        refine en_get (by decide +kernel : u_at kl_196 28 = some (.getfield 198, [12, 16])) hW ha0 (by decide) rfl ?_
        refine en_segs [(31, .iconst 1, []), (32, .isub, [])] (by decide +kernel) (y := (33, [some (.ref a0)], [.int ((cI r6 16 a0) - 1), .ref a0], h)) rfl ?_
        obtain ⟨c12_7, hc12_7, hF⟩ := ob_some hF
        refine en_putI (by decide +kernel : u_at kl_196 33 = some (.putfield 198, [12, 16, 0])) hW ha0 rfl (by decide) rfl (fun h hW => ?_)
        have hW : HW (mkw c0 c1 c2 c3 c4 c5 c6 c7 c8 c9 c10 c11 c12_7 c13) d h := by rw [← Option.some.inj hc12_7]; exact hW
        refine en_segs [(36, .aload_n 0, []), (37, .dup, [])] (by decide +kernel) (y := (38, [some (.ref a0)], [.ref a0, .ref a0], h)) rfl ?_
        refine en_get (by decide +kernel : u_at kl_196 38 = some (.getfield 195, [12, 13])) hW ha0 (by decide) rfl ?_
        refine en_segs [(41, .iconst 1, []), (42, .isub, [])] (by decide +kernel) (y := (43, [some (.ref a0)], [.int ((cI c12_7 13 a0) - 1), .ref a0], h)) rfl ?_
        obtain ⟨c12_8, hc12_8, hF⟩ := ob_some hF
        refine en_putI (by decide +kernel : u_at kl_196 43 = some (.putfield 195, [12, 13, 0])) hW ha0 rfl (by decide) rfl (fun h hW => ?_)
        have hW : HW (mkw c0 c1 c2 c3 c4 c5 c6 c7 c8 c9 c10 c11 c12_8 c13) d h := by rw [← Option.some.inj hc12_8]; exact hW
        refine en_segs [(46, .aload_n 0, []), (47, .dup, [])] (by decide +kernel) (y := (48, [some (.ref a0)], [.ref a0, .ref a0], h)) rfl ?_
        refine en_get (by decide +kernel : u_at kl_196 48 = some (.getfield 133, [12, 8])) hW ha0 (by decide) rfl ?_
        refine en_segs [(51, .iconst 1, []), (52, .iadd, [])] (by decide +kernel) (y := (53, [some (.ref a0)], [.int ((cI c12_8 8 a0) + 1), .ref a0], h)) rfl ?_
        obtain ⟨c12_9, hc12_9, hF⟩ := ob_some hF
        refine en_putI (by decide +kernel : u_at kl_196 53 = some (.putfield 133, [12, 8, 0])) hW ha0 rfl (by decide) rfl (fun h hW => ?_)
        have hW : HW (mkw c0 c1 c2 c3 c4 c5 c6 c7 c8 c9 c10 c11 c12_9 c13) d h := by rw [← Option.some.inj hc12_9]; exact hW
        refine en_segs [(56, .aload_n 0, []), (57, .iconst 3, [])] (by decide +kernel) (y := (58, [some (.ref a0)], [.int 3, .ref a0], h)) rfl ?_
        obtain ⟨r10, hr10, hF⟩ := ob_some hF
        refine en_vv (r := []) (by decide +kernel : u_at kl_196 58 = some (.invokevirtual 237, [189, 1, 12])) hW ha0 rfl rfl (Nat.le_of_ble_eq_true rfl) (e_189 (D := D) (by omega) hW ha0 hr10) (fun h hW => ?_)
        have hW : HW (mkw c0 c1 c2 c3 c4 c5 c6 c7 c8 c9 c10 c11 r10 c13) d h := hW
        refine en_segs [(61, .goto (-56), [5])] (by decide +kernel) (y := (5, [some (.ref a0)], [], h)) rfl ?_
        exact (ih _ _ _ _ _ _ hF) () rfl rfl rfl rfl  _ hW _ hQ
    · replace hF := i_neg b3 hF
      obtain rfl := Option.some.inj hF
      exact en_ret (by decide +kernel : u_at kl_196 64 = some (.return_, [])) rfl (hQ _ hW)
def F_196 (c12 : Cl) (a0 : Nat) : Option Cl :=
  F_189 c12 a0 3 >>= fun r1 =>
  G_196 a0 0 [] [] [] r1
set_option maxRecDepth 100000 in
set_option maxHeartbeats 4000000 in
/-- HeadCountsModel.closes -/
theorem e_196 {D : Nat} {c0 c1 c2 c3 c4 c5 c6 c7 c8 c9 c10 c11 c12 c13 : Cl} {d : Ad} {h : UH} {a0 : Nat} {r : Cl} (hD : 3 ≤ D) (hW : HW (mkw c0 c1 c2 c3 c4 c5 c6 c7 c8 c9 c10 c11 c12 c13) d h) (ha0 : aK d a0 = (0, 12, 0)) (hF : F_196 c12 a0 = some r) : ∃ q, EX D 196 [.ref a0] h q ∧ q.1 = none ∧ HW (mkw c0 c1 c2 c3 c4 c5 c6 c7 c8 c9 c10 c11 r c13) d q.2 := by
  obtain ⟨D, rfl⟩ : ∃ E, D = E + 1 := ⟨D - 1, by omega⟩
  unfold F_196 at hF
  refine ex_in (kl := kl_196) (nL := 1) rfl (by decide +kernel) (Nat.le_of_ble_eq_true rfl) ?_
  obtain ⟨QQ, hQQ⟩ : ∃ QQ : UR → Prop, QQ = (fun q : UR => q.1 = none ∧ HW (mkw c0 c1 c2 c3 c4 c5 c6 c7 c8 c9 c10 c11 r c13) d q.2) := ⟨_, rfl⟩
  rw [← hQQ]
  have hQ : ∀ h' : UH, HW (mkw c0 c1 c2 c3 c4 c5 c6 c7 c8 c9 c10 c11 r c13) d h' → QQ (none, h') := fun h' p => by rw [hQQ]; exact ⟨rfl, p⟩
  clear hQQ
  show Ends (EX D) (u_at kl_196) (0, [some (.ref a0)], [], h) QQ
  refine en_segs [(0, .aload_n 0, []), (1, .iconst 3, [])] (by decide +kernel) (y := (2, [some (.ref a0)], [.int 3, .ref a0], h)) rfl ?_
  obtain ⟨r1, hr1, hF⟩ := ob_some hF
  refine en_vv (r := []) (by decide +kernel : u_at kl_196 2 = some (.invokevirtual 237, [189, 1, 12])) hW ha0 rfl rfl (Nat.le_of_ble_eq_true rfl) (e_189 (D := D) (by omega) hW ha0 hr1) (fun h hW => ?_)
  have hW : HW (mkw c0 c1 c2 c3 c4 c5 c6 c7 c8 c9 c10 c11 r1 c13) d h := hW
  exact (g_196 (D := D) hD ha0 _ _ _ _ _ _ hF) () rfl rfl rfl rfl  _ hW _ hQ
def G_197 (a0 : Nat) (lab : Nat) (xs : List Int32) (ys : List Int64) (zs : List Nat) (c12 : Cl) : Option (Int32 × Cl) := match lab, xs, ys, zs with
  | 0, [x1], [], [] =>
    if x1 = 0 then
    F_195 c12 a0 >>= fun r4 =>
    if r4 = 0 then
    F_189 c12 a0 1 >>= fun r6 =>
    some (1, r6)
    else
    F_177 c12 a0 >>= fun r7 =>
    F_176 r7.2 a0 0 (cI r7.2 8 a0) >>= fun r8 =>
    zb r8.1 >>= fun z9 => some (z9, r8.2)
    else
    F_194 c12 a0 >>= fun r10 =>
    if r10.1 = 0 then
    some (0, r10.2)
    else
    F_196 r10.2 a0 >>= fun r12 =>
    F_180 r12 a0 6385252 >>= fun r13 =>
    ((if r13.1 = 0 then
    F_180 r13.2 a0 28530 >>= fun r27 =>
    if r27.1 = 0 then
    some (0, r27.2)
    else
    some (1, r27.2)
    else
    some (1, r13.2)) : Option (Int32 × Cl)) >>= fun (t14 : Int32 × Cl) =>
    if t14.1 = 0 then
    G_197 a0 0 [t14.1] [] [] t14.2
    else
    F_180 t14.2 a0 6385252 >>= fun r17 =>
    ((if r17.1 = 0 then
    some 13
    else
    some 12) : Option (Int32)) >>= fun (t18 : Int32) =>
    F_181 r17.2 a0 >>= fun r20 =>
    F_188 t18 >>= fun r21 =>
    F_189 r20 a0 r21 >>= fun r22 =>
    ast r22 15 a0 400 (cI r22 16 a0) t18 >>= fun c12_23 =>
    some (sI c12_23 16 a0 ((cI c12_23 16 a0) + 1)) >>= fun c12_24 =>
    G_197 a0 0 [t14.1] [] [] c12_24
  | _, _, _, _ => none
partial_fixpoint
set_option maxRecDepth 100000 in
set_option maxHeartbeats 4000000 in
theorem g_197 {D : Nat} (hD : 9 ≤ D + 1) {c0 c1 c2 c3 c4 c5 c6 c7 c8 c9 c10 c11 c13 : Cl} {d : Ad} {a0 : Nat} (ha0 : aK d a0 = (0, 12, 0)) : ∀ (lab : Nat) (xs : List Int32) (ys : List Int64) (zs : List Nat) (c12 : Cl) (r : (Int32 × Cl)), G_197 a0 lab xs ys zs c12 = some r →
    (∀ (x1 : Int32), lab = 0 → xs = [x1] → ys = [] → zs = [] → ∀ h : UH, HW (mkw c0 c1 c2 c3 c4 c5 c6 c7 c8 c9 c10 c11 c12 c13) d h → ∀ QQ : UR → Prop, (∀ h' : UH, HW (mkw c0 c1 c2 c3 c4 c5 c6 c7 c8 c9 c10 c11 r.2 c13) d h' → QQ (some (.int r.1), h')) → Ends (EX D) (u_at kl_197) (12, [some (.ref a0), some (.int x1), none], [], h) QQ) := by
  refine G_197.partial_correctness _ (motive := fun lab xs ys zs c12 r =>
    (∀ (x1 : Int32), lab = 0 → xs = [x1] → ys = [] → zs = [] → ∀ h : UH, HW (mkw c0 c1 c2 c3 c4 c5 c6 c7 c8 c9 c10 c11 c12 c13) d h → ∀ QQ : UR → Prop, (∀ h' : UH, HW (mkw c0 c1 c2 c3 c4 c5 c6 c7 c8 c9 c10 c11 r.2 c13) d h' → QQ (some (.int r.1), h')) → Ends (EX D) (u_at kl_197) (12, [some (.ref a0), some (.int x1), none], [], h) QQ)) ?_
  intro G ih lab xs ys zs c12 r hF
  · intro x1 e1 e2 e3 e4 h hW QQ hQ
    subst e1 e2 e3 e4
    refine en_segs [(12, .iload_n 1, [])] (by decide +kernel) (y := (13, [some (.ref a0), some (.int x1), none], [.int x1], h)) rfl ?_
    refine en_if_eq (by decide +kernel : u_at kl_197 13 = some (.ifCond .eq 99, [112])) (fun b3 => ?_) (fun b3 => ?_)
    · replace hF := i_pos b3 hF
      refine en_segs [(112, .aload_n 0, [])] (by decide +kernel) (y := (113, [some (.ref a0), some (.int x1), none], [.ref a0], h)) rfl ?_
      obtain ⟨r4, hr4, hF⟩ := ob_some hF
      refine en_vi (r := []) (by decide +kernel : u_at kl_197 113 = some (.invokevirtual 240, [195, 0, 12])) hW ha0 rfl rfl (Nat.le_of_ble_eq_true rfl) (e_195 (D := D) (by omega) hW ha0 hr4) (fun h' q => ?_)
      subst q
      refine en_if_eq (by decide +kernel : u_at kl_197 116 = some (.ifCond .eq 18, [134])) (fun b5 => ?_) (fun b5 => ?_)
      · replace hF := i_pos b5 hF
        refine en_segs [(134, .aload_n 0, []), (135, .iconst 1, [])] (by decide +kernel) (y := (136, [some (.ref a0), some (.int x1), none], [.int 1, .ref a0], h)) rfl ?_
        obtain ⟨r6, hr6, hF⟩ := ob_some hF
        refine en_vv (r := []) (by decide +kernel : u_at kl_197 136 = some (.invokevirtual 237, [189, 1, 12])) hW ha0 rfl rfl (Nat.le_of_ble_eq_true rfl) (e_189 (D := D) (by omega) hW ha0 hr6) (fun h hW => ?_)
        have hW : HW (mkw c0 c1 c2 c3 c4 c5 c6 c7 c8 c9 c10 c11 r6 c13) d h := hW
        refine en_segs [(139, .iconst 1, [])] (by decide +kernel) (y := (140, [some (.ref a0), some (.int x1), none], [.int 1], h)) rfl ?_
        obtain rfl := Option.some.inj hF
        exact en_ret (by decide +kernel : u_at kl_197 140 = some (.ireturn, [1])) rfl (hQ _ hW)
      · replace hF := i_neg b5 hF
        refine en_segs [(119, .aload_n 0, [])] (by decide +kernel) (y := (120, [some (.ref a0), some (.int x1), none], [.ref a0], h)) rfl ?_
        obtain ⟨r7, hr7, hF⟩ := ob_some hF
        refine en_vi (r := []) (by decide +kernel : u_at kl_197 120 = some (.invokevirtual 136, [177, 0, 12])) hW ha0 rfl rfl (Nat.le_of_ble_eq_true rfl) (e_177 (D := D) (by omega) hW ha0 hr7) (fun h hW => ?_)
        have hW : HW (mkw c0 c1 c2 c3 c4 c5 c6 c7 c8 c9 c10 c11 r7.2 c13) d h := hW
        refine en_segs [(123, .pop, []), (124, .aload_n 0, []), (125, .iconst 0, []), (126, .aload_n 0, [])] (by decide +kernel) (y := (127, [some (.ref a0), some (.int x1), none], [.ref a0, .int 0, .ref a0], h)) rfl ?_
        refine en_get (by decide +kernel : u_at kl_197 127 = some (.getfield 133, [12, 8])) hW ha0 (by decide) rfl ?_
        obtain ⟨r8, hr8, hF⟩ := ob_some hF
        refine en_vi (r := []) (by decide +kernel : u_at kl_197 130 = some (.invokevirtual 154, [176, 2, 12])) hW ha0 rfl rfl (Nat.le_of_ble_eq_true rfl) (e_176 (D := D) (by omega) hW ha0 hr8) (fun h hW => ?_)
        have hW : HW (mkw c0 c1 c2 c3 c4 c5 c6 c7 c8 c9 c10 c11 r8.2 c13) d h := hW
        obtain ⟨z9, hz9, hF⟩ := ob_some hF
        obtain rfl := Option.some.inj hF
        exact en_retZ (by decide +kernel : u_at kl_197 133 = some (.ireturn, [1])) hz9 (hQ _ hW)
    · replace hF := i_neg b3 hF
      refine en_segs [(16, .aload_n 0, [])] (by decide +kernel) (y := (17, [some (.ref a0), some (.int x1), none], [.ref a0], h)) rfl ?_
      obtain ⟨r10, hr10, hF⟩ := ob_some hF
      refine en_vi (r := []) (by decide +kernel : u_at kl_197 17 = some (.invokevirtual 243, [194, 0, 12])) hW ha0 rfl rfl (Nat.le_of_ble_eq_true rfl) (e_194 (D := D) (by omega) hW ha0 hr10) (fun h hW => ?_)
      have hW : HW (mkw c0 c1 c2 c3 c4 c5 c6 c7 c8 c9 c10 c11 r10.2 c13) d h := hW
      refine en_if_ne (by decide +kernel : u_at kl_197 20 = some (.ifCond .ne 5, [25])) (fun b11 => ?_) (fun b11 => ?_)
      · replace hF := i_pos b11 hF
        refine en_segs [(23, .iconst 0, [])] (by decide +kernel) (y := (24, [some (.ref a0), some (.int x1), none], [.int 0], h)) rfl ?_
        obtain rfl := Option.some.inj hF
        exact en_ret (by decide +kernel : u_at kl_197 24 = some (.ireturn, [1])) rfl (hQ _ hW)
      · replace hF := i_neg b11 hF
        refine en_segs [(25, .aload_n 0, [])] (by decide +kernel) (y := (26, [some (.ref a0), some (.int x1), none], [.ref a0], h)) rfl ?_
        obtain ⟨r12, hr12, hF⟩ := ob_some hF
        refine en_vv (r := []) (by decide +kernel : u_at kl_197 26 = some (.invokevirtual 246, [196, 0, 12])) hW ha0 rfl rfl (Nat.le_of_ble_eq_true rfl) (e_196 (D := D) (by omega) hW ha0 hr12) (fun h hW => ?_)
        have hW : HW (mkw c0 c1 c2 c3 c4 c5 c6 c7 c8 c9 c10 c11 r12 c13) d h := hW
        refine en_segs [(29, .aload_n 0, []), (30, .ldc2_w 249, [6385252])] (by decide +kernel) (y := (33, [some (.ref a0), some (.int x1), none], [.long 6385252, .ref a0], h)) rfl ?_
        obtain ⟨r13, hr13, hF⟩ := ob_some hF
        refine en_vi (r := []) (by decide +kernel : u_at kl_197 33 = some (.invokevirtual 144, [180, 1, 12])) hW ha0 rfl rfl (Nat.le_of_ble_eq_true rfl) (e_180 (D := D) (by omega) hW ha0 hr13) (fun h hW => ?_)
        have hW : HW (mkw c0 c1 c2 c3 c4 c5 c6 c7 c8 c9 c10 c11 r13.2 c13) d h := hW
        obtain ⟨t14, hX, hK⟩ := ob_some hF
        have j15 : ∀ h : UH, HW (mkw c0 c1 c2 c3 c4 c5 c6 c7 c8 c9 c10 c11 t14.2 c13) d h → Ends (EX D) (u_at kl_197) (54, [some (.ref a0), some (.int x1), none], [.int t14.1], h) QQ := by
          intro h hW
          have hF := hK
          refine en_segs [(54, .istore_n 1, []), (55, .iload_n 1, [])] (by decide +kernel) (y := (56, [some (.ref a0), some (.int t14.1), none], [.int t14.1], h)) rfl ?_
          refine en_if_eq (by decide +kernel : u_at kl_197 56 = some (.ifCond .eq (-44), [12])) (fun b16 => ?_) (fun b16 => ?_)
          · replace hF := i_pos b16 hF
            exact (ih _ _ _ _ _ _ hF) _ rfl rfl rfl rfl  _ hW _ hQ
          · replace hF := i_neg b16 hF
            refine en_segs [(59, .aload_n 0, []), (60, .ldc2_w 249, [6385252])] (by decide +kernel) (y := (63, [some (.ref a0), some (.int t14.1), none], [.long 6385252, .ref a0], h)) rfl ?_
            obtain ⟨r17, hr17, hF⟩ := ob_some hF
            refine en_vi (r := []) (by decide +kernel : u_at kl_197 63 = some (.invokevirtual 144, [180, 1, 12])) hW ha0 rfl rfl (Nat.le_of_ble_eq_true rfl) (e_180 (D := D) (by omega) hW ha0 hr17) (fun h hW => ?_)
            have hW : HW (mkw c0 c1 c2 c3 c4 c5 c6 c7 c8 c9 c10 c11 r17.2 c13) d h := hW
            obtain ⟨t18, hX, hK⟩ := ob_some hF
            have j19 : ∀ h : UH, HW (mkw c0 c1 c2 c3 c4 c5 c6 c7 c8 c9 c10 c11 r17.2 c13) d h → Ends (EX D) (u_at kl_197) (76, [some (.ref a0), some (.int t14.1), none], [.int t18], h) QQ := by
              intro h hW
              have hF := hK
              refine en_segs [(76, .istore_n 2, []), (77, .aload_n 0, [])] (by decide +kernel) (y := (78, [some (.ref a0), some (.int t14.1), some (.int t18)], [.ref a0], h)) rfl ?_
              obtain ⟨r20, hr20, hF⟩ := ob_some hF
              refine en_vv (r := []) (by decide +kernel : u_at kl_197 78 = some (.invokevirtual 148, [181, 0, 12])) hW ha0 rfl rfl (Nat.le_of_ble_eq_true rfl) (e_181 (D := D) (by omega) hW ha0 hr20) (fun h hW => ?_)
              have hW : HW (mkw c0 c1 c2 c3 c4 c5 c6 c7 c8 c9 c10 c11 r20 c13) d h := hW
              refine en_segs [(81, .aload_n 0, []), (82, .iload_n 2, [])] (by decide +kernel) (y := (83, [some (.ref a0), some (.int t14.1), some (.int t18)], [.int t18, .ref a0], h)) rfl ?_
              obtain ⟨r21, hr21, hF⟩ := ob_some hF
              refine en_si (r := [.ref a0]) (by decide +kernel : u_at kl_197 83 = some (.invokestatic 201, [188, 1])) rfl rfl (Nat.le_of_ble_eq_true rfl) (e_188 (D := D) (by omega) hW hr21) (fun h' q => ?_)
              subst q
              obtain ⟨r22, hr22, hF⟩ := ob_some hF
              refine en_vv (r := []) (by decide +kernel : u_at kl_197 86 = some (.invokevirtual 237, [189, 1, 12])) hW ha0 rfl rfl (Nat.le_of_ble_eq_true rfl) (e_189 (D := D) (by omega) hW ha0 hr22) (fun h hW => ?_)
              have hW : HW (mkw c0 c1 c2 c3 c4 c5 c6 c7 c8 c9 c10 c11 r22 c13) d h := hW
              refine en_segs [(89, .aload_n 0, [])] (by decide +kernel) (y := (90, [some (.ref a0), some (.int t14.1), some (.int t18)], [.ref a0], h)) rfl ?_
              refine en_get (by decide +kernel : u_at kl_197 90 = some (.getfield 29, [12, 15])) hW ha0 (by decide) rfl ?_
              refine en_segs [(93, .aload_n 0, [])] (by decide +kernel) (y := (94, [some (.ref a0), some (.int t14.1), some (.int t18)], [.ref a0, .ref (aP d 12 15 a0)], h)) rfl ?_
              refine en_get (by decide +kernel : u_at kl_197 94 = some (.getfield 198, [12, 16])) hW ha0 (by decide) rfl ?_
              refine en_segs [(97, .iload_n 2, [])] (by decide +kernel) (y := (98, [some (.ref a0), some (.int t14.1), some (.int t18)], [.int t18, .int (cI r22 16 a0), .ref (aP d 12 15 a0)], h)) rfl ?_
              obtain ⟨c12_23, hc12_23, hF⟩ := ob_some hF
              refine en_iast (by decide +kernel : u_at kl_197 98 = some (.iastore, [])) hW ha0 rfl (by decide) hc12_23 (fun h hW => ?_)
              have hW : HW (mkw c0 c1 c2 c3 c4 c5 c6 c7 c8 c9 c10 c11 c12_23 c13) d h := hW
              refine en_segs [(99, .aload_n 0, []), (100, .dup, [])] (by decide +kernel) (y := (101, [some (.ref a0), some (.int t14.1), some (.int t18)], [.ref a0, .ref a0], h)) rfl ?_
              refine en_get (by decide +kernel : u_at kl_197 101 = some (.getfield 198, [12, 16])) hW ha0 (by decide) rfl ?_
              refine en_segs [(104, .iconst 1, []), (105, .iadd, [])] (by decide +kernel) (y := (106, [some (.ref a0), some (.int t14.1), some (.int t18)], [.int ((cI c12_23 16 a0) + 1), .ref a0], h)) rfl ?_
              obtain ⟨c12_24, hc12_24, hF⟩ := ob_some hF
              refine en_putI (by decide +kernel : u_at kl_197 106 = some (.putfield 198, [12, 16, 0])) hW ha0 rfl (by decide) rfl (fun h hW => ?_)
              have hW : HW (mkw c0 c1 c2 c3 c4 c5 c6 c7 c8 c9 c10 c11 c12_24 c13) d h := by rw [← Option.some.inj hc12_24]; exact hW
              refine en_segs [(109, .goto (-97), [12])] (by decide +kernel) (y := (12, [some (.ref a0), some (.int t14.1), some (.int t18)], [], h)) rfl ?_
              refine en_fg (fg_k (fg_k (fg_d fg_0))) ?_
              exact (ih _ _ _ _ _ _ hF) _ rfl rfl rfl rfl  _ hW _ hQ
            have hF := hX
            refine en_if_eq (by decide +kernel : u_at kl_197 66 = some (.ifCond .eq 8, [74])) (fun b25 => ?_) (fun b25 => ?_)
            · replace hF := i_pos b25 hF
              refine en_segs [(74, .bipush 13, [])] (by decide +kernel) (y := (76, [some (.ref a0), some (.int t14.1), none], [.int 13], h)) rfl ?_
              obtain rfl := Option.some.inj hF
              exact j19 _ hW
            · replace hF := i_neg b25 hF
              refine en_segs [(69, .bipush 12, []), (71, .goto 5, [76])] (by decide +kernel) (y := (76, [some (.ref a0), some (.int t14.1), none], [.int 12], h)) rfl ?_
              obtain rfl := Option.some.inj hF
              exact j19 _ hW
        have hF := hX
        refine en_if_ne (by decide +kernel : u_at kl_197 36 = some (.ifCond .ne 13, [49])) (fun b26 => ?_) (fun b26 => ?_)
        · replace hF := i_pos b26 hF
          refine en_segs [(39, .aload_n 0, []), (40, .ldc2_w 251, [28530])] (by decide +kernel) (y := (43, [some (.ref a0), some (.int x1), none], [.long 28530, .ref a0], h)) rfl ?_
          obtain ⟨r27, hr27, hF⟩ := ob_some hF
          refine en_vi (r := []) (by decide +kernel : u_at kl_197 43 = some (.invokevirtual 144, [180, 1, 12])) hW ha0 rfl rfl (Nat.le_of_ble_eq_true rfl) (e_180 (D := D) (by omega) hW ha0 hr27) (fun h hW => ?_)
          have hW : HW (mkw c0 c1 c2 c3 c4 c5 c6 c7 c8 c9 c10 c11 r27.2 c13) d h := hW
          refine en_if_eq (by decide +kernel : u_at kl_197 46 = some (.ifCond .eq 7, [53])) (fun b28 => ?_) (fun b28 => ?_)
          · replace hF := i_pos b28 hF
            refine en_segs [(53, .iconst 0, [])] (by decide +kernel) (y := (54, [some (.ref a0), some (.int x1), none], [.int 0], h)) rfl ?_
            obtain rfl := Option.some.inj hF
            exact j15 _ hW
          · replace hF := i_neg b28 hF
            refine en_segs [(49, .iconst 1, []), (50, .goto 4, [54])] (by decide +kernel) (y := (54, [some (.ref a0), some (.int x1), none], [.int 1], h)) rfl ?_
            obtain rfl := Option.some.inj hF
            exact j15 _ hW
        · replace hF := i_neg b26 hF
          refine en_segs [(49, .iconst 1, []), (50, .goto 4, [54])] (by decide +kernel) (y := (54, [some (.ref a0), some (.int x1), none], [.int 1], h)) rfl ?_
          obtain rfl := Option.some.inj hF
          exact j15 _ hW
def F_197 (c12 : Cl) (a0 : Nat) : Option (Int32 × Cl) :=
  some (sI c12 16 a0 0) >>= fun c12_1 =>
  some (sI c12_1 13 a0 0) >>= fun c12_2 =>
  G_197 a0 0 [1] [] [] c12_2
set_option maxRecDepth 100000 in
set_option maxHeartbeats 4000000 in
/-- HeadCountsModel.tested -/
theorem e_197 {D : Nat} {c0 c1 c2 c3 c4 c5 c6 c7 c8 c9 c10 c11 c12 c13 : Cl} {d : Ad} {h : UH} {a0 : Nat} {r : (Int32 × Cl)} (hD : 9 ≤ D) (hW : HW (mkw c0 c1 c2 c3 c4 c5 c6 c7 c8 c9 c10 c11 c12 c13) d h) (ha0 : aK d a0 = (0, 12, 0)) (hF : F_197 c12 a0 = some r) : ∃ q, EX D 197 [.ref a0] h q ∧ q.1 = some (.int r.1) ∧ HW (mkw c0 c1 c2 c3 c4 c5 c6 c7 c8 c9 c10 c11 r.2 c13) d q.2 := by
  obtain ⟨D, rfl⟩ : ∃ E, D = E + 1 := ⟨D - 1, by omega⟩
  unfold F_197 at hF
  refine ex_in (kl := kl_197) (nL := 3) rfl (by decide +kernel) (Nat.le_of_ble_eq_true rfl) ?_
  obtain ⟨QQ, hQQ⟩ : ∃ QQ : UR → Prop, QQ = (fun q : UR => q.1 = some (.int r.1) ∧ HW (mkw c0 c1 c2 c3 c4 c5 c6 c7 c8 c9 c10 c11 r.2 c13) d q.2) := ⟨_, rfl⟩
  rw [← hQQ]
  have hQ : ∀ h' : UH, HW (mkw c0 c1 c2 c3 c4 c5 c6 c7 c8 c9 c10 c11 r.2 c13) d h' → QQ (some (.int r.1), h') := fun h' p => by rw [hQQ]; exact ⟨rfl, p⟩
  clear hQQ
  show Ends (EX D) (u_at kl_197) (0, [some (.ref a0), none, none], [], h) QQ
  refine en_segs [(0, .aload_n 0, []), (1, .iconst 0, [])] (by decide +kernel) (y := (2, [some (.ref a0), none, none], [.int 0, .ref a0], h)) rfl ?_
  obtain ⟨c12_1, hc12_1, hF⟩ := ob_some hF
  refine en_putI (by decide +kernel : u_at kl_197 2 = some (.putfield 198, [12, 16, 0])) hW ha0 rfl (by decide) rfl (fun h hW => ?_)
  have hW : HW (mkw c0 c1 c2 c3 c4 c5 c6 c7 c8 c9 c10 c11 c12_1 c13) d h := by rw [← Option.some.inj hc12_1]; exact hW
  refine en_segs [(5, .aload_n 0, []), (6, .iconst 0, [])] (by decide +kernel) (y := (7, [some (.ref a0), none, none], [.int 0, .ref a0], h)) rfl ?_
  obtain ⟨c12_2, hc12_2, hF⟩ := ob_some hF
  refine en_putI (by decide +kernel : u_at kl_197 7 = some (.putfield 195, [12, 13, 0])) hW ha0 rfl (by decide) rfl (fun h hW => ?_)
  have hW : HW (mkw c0 c1 c2 c3 c4 c5 c6 c7 c8 c9 c10 c11 c12_2 c13) d h := by rw [← Option.some.inj hc12_2]; exact hW
  refine en_segs [(10, .iconst 1, []), (11, .istore_n 1, [])] (by decide +kernel) (y := (12, [some (.ref a0), some (.int 1), none], [], h)) rfl ?_
  exact (g_197 (D := D) hD ha0 _ _ _ _ _ _ hF) _ rfl rfl rfl rfl  _ hW _ hQ
def G_198 (c12 : Cl) (a0 : Nat) (lab : Nat) (xs : List Int32) (ys : List Int64) (zs : List Nat) : Option (Int32 × Cl) := match lab, xs, ys, zs with
  | 0, [x1], [], [] =>
    ald (cA c12 4 a0) 7 (cI c12 11 a0) >>= fun v16 =>
    ast c12 5 a0 288 (x1 + 3) v16 >>= fun c12_17 =>
    ald (cA c12_17 6 a0) 6 (cI c12_17 11 a0) >>= fun v18 =>
    ast c12_17 6 a0 6 (cI c12_17 11 a0) (v18 + 1) >>= fun c12_19 =>
    some (1, c12_19)
  | _, _, _, _ => none
set_option maxRecDepth 100000 in
set_option maxHeartbeats 4000000 in
theorem g_198 {D : Nat} (hD : 10 ≤ D + 1) {c0 c1 c2 c3 c4 c5 c6 c7 c8 c9 c10 c11 c12 c13 : Cl} {d : Ad} {a0 : Nat} (ha0 : aK d a0 = (0, 12, 0)) : ∀ (lab : Nat) (xs : List Int32) (ys : List Int64) (zs : List Nat) (r : (Int32 × Cl)), G_198 c12 a0 lab xs ys zs = some r →
    (∀ (x1 : Int32), lab = 0 → xs = [x1] → ys = [] → zs = [] → ∀ h : UH, HW (mkw c0 c1 c2 c3 c4 c5 c6 c7 c8 c9 c10 c11 c12 c13) d h → ∀ QQ : UR → Prop, (∀ h' : UH, HW (mkw c0 c1 c2 c3 c4 c5 c6 c7 c8 c9 c10 c11 r.2 c13) d h' → QQ (some (.int r.1), h')) → Ends (EX D) (u_at kl_198) (110, [some (.ref a0), some (.int x1)], [], h) QQ) := by
  intro lab xs ys zs r hF
  unfold G_198 at hF
  · intro x1 e1 e2 e3 e4 h hW QQ hQ
    subst e1 e2 e3 e4
    refine en_segs [(110, .aload_n 0, [])] (by decide +kernel) (y := (111, [some (.ref a0), some (.int x1)], [.ref a0], h)) rfl ?_
    refine en_get (by decide +kernel : u_at kl_198 111 = some (.getfield 20, [12, 5])) hW ha0 (by decide) rfl ?_
    refine en_segs [(114, .iload_n 1, []), (115, .iconst 3, []), (116, .iadd, []), (117, .aload_n 0, [])] (by decide +kernel) (y := (118, [some (.ref a0), some (.int x1)], [.ref a0, .int (x1 + 3), .ref (aP d 12 5 a0)], h)) rfl ?_
    refine en_get (by decide +kernel : u_at kl_198 118 = some (.getfield 17, [12, 4])) hW ha0 (by decide) rfl ?_
    refine en_segs [(121, .aload_n 0, [])] (by decide +kernel) (y := (122, [some (.ref a0), some (.int x1)], [.ref a0, .ref (aP d 12 4 a0), .int (x1 + 3), .ref (aP d 12 5 a0)], h)) rfl ?_
    refine en_get (by decide +kernel : u_at kl_198 122 = some (.getfield 189, [12, 11])) hW ha0 (by decide) rfl ?_
    obtain ⟨v16, hv16, hF⟩ := ob_some hF
    refine en_iald (by decide +kernel : u_at kl_198 125 = some (.iaload, [])) hW ha0 rfl (by decide) hv16 ?_
    obtain ⟨c12_17, hc12_17, hF⟩ := ob_some hF
    refine en_iast (by decide +kernel : u_at kl_198 126 = some (.iastore, [])) hW ha0 rfl (by decide) hc12_17 (fun h hW => ?_)
    have hW : HW (mkw c0 c1 c2 c3 c4 c5 c6 c7 c8 c9 c10 c11 c12_17 c13) d h := hW
    refine en_segs [(127, .aload_n 0, [])] (by decide +kernel) (y := (128, [some (.ref a0), some (.int x1)], [.ref a0], h)) rfl ?_
    refine en_get (by decide +kernel : u_at kl_198 128 = some (.getfield 23, [12, 6])) hW ha0 (by decide) rfl ?_
    refine en_segs [(131, .aload_n 0, [])] (by decide +kernel) (y := (132, [some (.ref a0), some (.int x1)], [.ref a0, .ref (aP d 12 6 a0)], h)) rfl ?_
    refine en_get (by decide +kernel : u_at kl_198 132 = some (.getfield 189, [12, 11])) hW ha0 (by decide) rfl ?_
    refine en_segs [(135, .dup2, [])] (by decide +kernel) (y := (136, [some (.ref a0), some (.int x1)], [.int (cI c12_17 11 a0), .ref (aP d 12 6 a0), .int (cI c12_17 11 a0), .ref (aP d 12 6 a0)], h)) rfl ?_
    obtain ⟨v18, hv18, hF⟩ := ob_some hF
    refine en_iald (by decide +kernel : u_at kl_198 136 = some (.iaload, [])) hW ha0 rfl (by decide) hv18 ?_
    refine en_segs [(137, .iconst 1, []), (138, .iadd, [])] (by decide +kernel) (y := (139, [some (.ref a0), some (.int x1)], [.int (v18 + 1), .int (cI c12_17 11 a0), .ref (aP d 12 6 a0)], h)) rfl ?_
    obtain ⟨c12_19, hc12_19, hF⟩ := ob_some hF
    refine en_iast (by decide +kernel : u_at kl_198 139 = some (.iastore, [])) hW ha0 rfl (by decide) hc12_19 (fun h hW => ?_)
    have hW : HW (mkw c0 c1 c2 c3 c4 c5 c6 c7 c8 c9 c10 c11 c12_19 c13) d h := hW
    refine en_segs [(140, .iconst 1, [])] (by decide +kernel) (y := (141, [some (.ref a0), some (.int x1)], [.int 1], h)) rfl ?_
    obtain rfl := Option.some.inj hF
    exact en_ret (by decide +kernel : u_at kl_198 141 = some (.ireturn, [1])) rfl (hQ _ hW)
def F_198 (c12 : Cl) (a0 : Nat) : Option (Int32 × Cl) :=
  F_181 c12 a0 >>= fun r1 =>
  ald (cA r1 6 a0) 6 (cI r1 11 a0) >>= fun v2 =>
  ald (cA r1 4 a0) 7 (cI r1 11 a0) >>= fun v3 =>
  ast r1 5 a0 288 ((48 * (cI r1 11 a0)) + (4 * v2)) v3 >>= fun c12_4 =>
  F_192 c12_4 a0 >>= fun r5 =>
  if r5.1 = 0 then
  some (0, r5.2)
  else
  ald (cA r5.2 4 a0) 7 (cI r5.2 11 a0) >>= fun v7 =>
  ast r5.2 5 a0 288 (((48 * (cI r1 11 a0)) + (4 * v2)) + 1) v7 >>= fun c12_8 =>
  ast c12_8 5 a0 288 (((48 * (cI r1 11 a0)) + (4 * v2)) + 2) (-1) >>= fun c12_9 =>
  F_182 c12_9 a0 26982 >>= fun r10 =>
  if r10.1 = 0 then
  G_198 r10.2 a0 0 [(48 * (cI r1 11 a0)) + (4 * v2)] [] []
  else
  ald (cA r10.2 4 a0) 7 (cI r10.2 11 a0) >>= fun v12 =>
  ast r10.2 5 a0 288 (((48 * (cI r1 11 a0)) + (4 * v2)) + 2) v12 >>= fun c12_13 =>
  F_197 c12_13 a0 >>= fun r14 =>
  if r14.1 = 0 then
  some (0, r14.2)
  else
  G_198 r14.2 a0 0 [(48 * (cI r1 11 a0)) + (4 * v2)] [] []
set_option maxRecDepth 100000 in
set_option maxHeartbeats 4000000 in
/-- HeadCountsModel.isGoHere -/
theorem e_198 {D : Nat} {c0 c1 c2 c3 c4 c5 c6 c7 c8 c9 c10 c11 c12 c13 : Cl} {d : Ad} {h : UH} {a0 : Nat} {r : (Int32 × Cl)} (hD : 10 ≤ D) (hW : HW (mkw c0 c1 c2 c3 c4 c5 c6 c7 c8 c9 c10 c11 c12 c13) d h) (ha0 : aK d a0 = (0, 12, 0)) (hF : F_198 c12 a0 = some r) : ∃ q, EX D 198 [.ref a0] h q ∧ q.1 = some (.int r.1) ∧ HW (mkw c0 c1 c2 c3 c4 c5 c6 c7 c8 c9 c10 c11 r.2 c13) d q.2 := by
  obtain ⟨D, rfl⟩ : ∃ E, D = E + 1 := ⟨D - 1, by omega⟩
  unfold F_198 at hF
  refine ex_in (kl := kl_198) (nL := 2) rfl (by decide +kernel) (Nat.le_of_ble_eq_true rfl) ?_
  obtain ⟨QQ, hQQ⟩ : ∃ QQ : UR → Prop, QQ = (fun q : UR => q.1 = some (.int r.1) ∧ HW (mkw c0 c1 c2 c3 c4 c5 c6 c7 c8 c9 c10 c11 r.2 c13) d q.2) := ⟨_, rfl⟩
  rw [← hQQ]
  have hQ : ∀ h' : UH, HW (mkw c0 c1 c2 c3 c4 c5 c6 c7 c8 c9 c10 c11 r.2 c13) d h' → QQ (some (.int r.1), h') := fun h' p => by rw [hQQ]; exact ⟨rfl, p⟩
  clear hQQ
  show Ends (EX D) (u_at kl_198) (0, [some (.ref a0), none], [], h) QQ
  refine en_segs [(0, .aload_n 0, [])] (by decide +kernel) (y := (1, [some (.ref a0), none], [.ref a0], h)) rfl ?_
  obtain ⟨r1, hr1, hF⟩ := ob_some hF
  refine en_vv (r := []) (by decide +kernel : u_at kl_198 1 = some (.invokevirtual 148, [181, 0, 12])) hW ha0 rfl rfl (Nat.le_of_ble_eq_true rfl) (e_181 (D := D) (by omega) hW ha0 hr1) (fun h hW => ?_)
  have hW : HW (mkw c0 c1 c2 c3 c4 c5 c6 c7 c8 c9 c10 c11 r1 c13) d h := hW
  refine en_segs [(4, .bipush 48, []), (6, .aload_n 0, [])] (by decide +kernel) (y := (7, [some (.ref a0), none], [.ref a0, .int 48], h)) rfl ?_
  refine en_get (by decide +kernel : u_at kl_198 7 = some (.getfield 189, [12, 11])) hW ha0 (by decide) rfl ?_
  refine en_segs [(10, .imul, []), (11, .iconst 4, []), (12, .aload_n 0, [])] (by decide +kernel) (y := (13, [some (.ref a0), none], [.ref a0, .int 4, .int (48 * (cI r1 11 a0))], h)) rfl ?_
  refine en_get (by decide +kernel : u_at kl_198 13 = some (.getfield 23, [12, 6])) hW ha0 (by decide) rfl ?_
  refine en_segs [(16, .aload_n 0, [])] (by decide +kernel) (y := (17, [some (.ref a0), none], [.ref a0, .ref (aP d 12 6 a0), .int 4, .int (48 * (cI r1 11 a0))], h)) rfl ?_
  refine en_get (by decide +kernel : u_at kl_198 17 = some (.getfield 189, [12, 11])) hW ha0 (by decide) rfl ?_
  obtain ⟨v2, hv2, hF⟩ := ob_some hF
  refine en_iald (by decide +kernel : u_at kl_198 20 = some (.iaload, [])) hW ha0 rfl (by decide) hv2 ?_
  refine en_segs [(21, .imul, []), (22, .iadd, []), (23, .istore_n 1, []), (24, .aload_n 0, [])] (by decide +kernel) (y := (25, [some (.ref a0), some (.int ((48 * (cI r1 11 a0)) + (4 * v2)))], [.ref a0], h)) rfl ?_
  refine en_get (by decide +kernel : u_at kl_198 25 = some (.getfield 20, [12, 5])) hW ha0 (by decide) rfl ?_
  refine en_segs [(28, .iload_n 1, []), (29, .aload_n 0, [])] (by decide +kernel) (y := (30, [some (.ref a0), some (.int ((48 * (cI r1 11 a0)) + (4 * v2)))], [.ref a0, .int ((48 * (cI r1 11 a0)) + (4 * v2)), .ref (aP d 12 5 a0)], h)) rfl ?_
  refine en_get (by decide +kernel : u_at kl_198 30 = some (.getfield 17, [12, 4])) hW ha0 (by decide) rfl ?_
  refine en_segs [(33, .aload_n 0, [])] (by decide +kernel) (y := (34, [some (.ref a0), some (.int ((48 * (cI r1 11 a0)) + (4 * v2)))], [.ref a0, .ref (aP d 12 4 a0), .int ((48 * (cI r1 11 a0)) + (4 * v2)), .ref (aP d 12 5 a0)], h)) rfl ?_
  refine en_get (by decide +kernel : u_at kl_198 34 = some (.getfield 189, [12, 11])) hW ha0 (by decide) rfl ?_
  obtain ⟨v3, hv3, hF⟩ := ob_some hF
  refine en_iald (by decide +kernel : u_at kl_198 37 = some (.iaload, [])) hW ha0 rfl (by decide) hv3 ?_
  obtain ⟨c12_4, hc12_4, hF⟩ := ob_some hF
  refine en_iast (by decide +kernel : u_at kl_198 38 = some (.iastore, [])) hW ha0 rfl (by decide) hc12_4 (fun h hW => ?_)
  have hW : HW (mkw c0 c1 c2 c3 c4 c5 c6 c7 c8 c9 c10 c11 c12_4 c13) d h := hW
  refine en_segs [(39, .aload_n 0, [])] (by decide +kernel) (y := (40, [some (.ref a0), some (.int ((48 * (cI r1 11 a0)) + (4 * v2)))], [.ref a0], h)) rfl ?_
  obtain ⟨r5, hr5, hF⟩ := ob_some hF
  refine en_vi (r := []) (by decide +kernel : u_at kl_198 40 = some (.invokevirtual 226, [192, 0, 12])) hW ha0 rfl rfl (Nat.le_of_ble_eq_true rfl) (e_192 (D := D) (by omega) hW ha0 hr5) (fun h hW => ?_)
  have hW : HW (mkw c0 c1 c2 c3 c4 c5 c6 c7 c8 c9 c10 c11 r5.2 c13) d h := hW
  refine en_if_ne (by decide +kernel : u_at kl_198 43 = some (.ifCond .ne 5, [48])) (fun b6 => ?_) (fun b6 => ?_)
  · replace hF := i_pos b6 hF
    refine en_segs [(46, .iconst 0, [])] (by decide +kernel) (y := (47, [some (.ref a0), some (.int ((48 * (cI r1 11 a0)) + (4 * v2)))], [.int 0], h)) rfl ?_
    obtain rfl := Option.some.inj hF
    exact en_ret (by decide +kernel : u_at kl_198 47 = some (.ireturn, [1])) rfl (hQ _ hW)
  · replace hF := i_neg b6 hF
    refine en_segs [(48, .aload_n 0, [])] (by decide +kernel) (y := (49, [some (.ref a0), some (.int ((48 * (cI r1 11 a0)) + (4 * v2)))], [.ref a0], h)) rfl ?_
    refine en_get (by decide +kernel : u_at kl_198 49 = some (.getfield 20, [12, 5])) hW ha0 (by decide) rfl ?_
    refine en_segs [(52, .iload_n 1, []), (53, .iconst 1, []), (54, .iadd, []), (55, .aload_n 0, [])] (by decide +kernel) (y := (56, [some (.ref a0), some (.int ((48 * (cI r1 11 a0)) + (4 * v2)))], [.ref a0, .int (((48 * (cI r1 11 a0)) + (4 * v2)) + 1), .ref (aP d 12 5 a0)], h)) rfl ?_
    refine en_get (by decide +kernel : u_at kl_198 56 = some (.getfield 17, [12, 4])) hW ha0 (by decide) rfl ?_
    refine en_segs [(59, .aload_n 0, [])] (by decide +kernel) (y := (60, [some (.ref a0), some (.int ((48 * (cI r1 11 a0)) + (4 * v2)))], [.ref a0, .ref (aP d 12 4 a0), .int (((48 * (cI r1 11 a0)) + (4 * v2)) + 1), .ref (aP d 12 5 a0)], h)) rfl ?_
    refine en_get (by decide +kernel : u_at kl_198 60 = some (.getfield 189, [12, 11])) hW ha0 (by decide) rfl ?_
    obtain ⟨v7, hv7, hF⟩ := ob_some hF
    refine en_iald (by decide +kernel : u_at kl_198 63 = some (.iaload, [])) hW ha0 rfl (by decide) hv7 ?_
    obtain ⟨c12_8, hc12_8, hF⟩ := ob_some hF
    refine en_iast (by decide +kernel : u_at kl_198 64 = some (.iastore, [])) hW ha0 rfl (by decide) hc12_8 (fun h hW => ?_)
    have hW : HW (mkw c0 c1 c2 c3 c4 c5 c6 c7 c8 c9 c10 c11 c12_8 c13) d h := hW
    refine en_segs [(65, .aload_n 0, [])] (by decide +kernel) (y := (66, [some (.ref a0), some (.int ((48 * (cI r1 11 a0)) + (4 * v2)))], [.ref a0], h)) rfl ?_
    refine en_get (by decide +kernel : u_at kl_198 66 = some (.getfield 20, [12, 5])) hW ha0 (by decide) rfl ?_
    refine en_segs [(69, .iload_n 1, []), (70, .iconst 2, []), (71, .iadd, []), (72, .iconst (-1), [])] (by decide +kernel) (y := (73, [some (.ref a0), some (.int ((48 * (cI r1 11 a0)) + (4 * v2)))], [.int (-1), .int (((48 * (cI r1 11 a0)) + (4 * v2)) + 2), .ref (aP d 12 5 a0)], h)) rfl ?_
    obtain ⟨c12_9, hc12_9, hF⟩ := ob_some hF
    refine en_iast (by decide +kernel : u_at kl_198 73 = some (.iastore, [])) hW ha0 rfl (by decide) hc12_9 (fun h hW => ?_)
    have hW : HW (mkw c0 c1 c2 c3 c4 c5 c6 c7 c8 c9 c10 c11 c12_9 c13) d h := hW
    refine en_segs [(74, .aload_n 0, []), (75, .ldc2_w 253, [26982])] (by decide +kernel) (y := (78, [some (.ref a0), some (.int ((48 * (cI r1 11 a0)) + (4 * v2)))], [.long 26982, .ref a0], h)) rfl ?_
    obtain ⟨r10, hr10, hF⟩ := ob_some hF
    refine en_vi (r := []) (by decide +kernel : u_at kl_198 78 = some (.invokevirtual 255, [182, 1, 12])) hW ha0 rfl rfl (Nat.le_of_ble_eq_true rfl) (e_182 (D := D) (by omega) hW ha0 hr10) (fun h hW => ?_)
    have hW : HW (mkw c0 c1 c2 c3 c4 c5 c6 c7 c8 c9 c10 c11 r10.2 c13) d h := hW
    refine en_if_eq (by decide +kernel : u_at kl_198 81 = some (.ifCond .eq 29, [110])) (fun b11 => ?_) (fun b11 => ?_)
    · replace hF := i_pos b11 hF
      exact (g_198 (D := D) hD ha0 _ _ _ _ _ hF) _ rfl rfl rfl rfl  _ hW _ hQ
    · replace hF := i_neg b11 hF
      refine en_segs [(84, .aload_n 0, [])] (by decide +kernel) (y := (85, [some (.ref a0), some (.int ((48 * (cI r1 11 a0)) + (4 * v2)))], [.ref a0], h)) rfl ?_
      refine en_get (by decide +kernel : u_at kl_198 85 = some (.getfield 20, [12, 5])) hW ha0 (by decide) rfl ?_
      refine en_segs [(88, .iload_n 1, []), (89, .iconst 2, []), (90, .iadd, []), (91, .aload_n 0, [])] (by decide +kernel) (y := (92, [some (.ref a0), some (.int ((48 * (cI r1 11 a0)) + (4 * v2)))], [.ref a0, .int (((48 * (cI r1 11 a0)) + (4 * v2)) + 2), .ref (aP d 12 5 a0)], h)) rfl ?_
      refine en_get (by decide +kernel : u_at kl_198 92 = some (.getfield 17, [12, 4])) hW ha0 (by decide) rfl ?_
      refine en_segs [(95, .aload_n 0, [])] (by decide +kernel) (y := (96, [some (.ref a0), some (.int ((48 * (cI r1 11 a0)) + (4 * v2)))], [.ref a0, .ref (aP d 12 4 a0), .int (((48 * (cI r1 11 a0)) + (4 * v2)) + 2), .ref (aP d 12 5 a0)], h)) rfl ?_
      refine en_get (by decide +kernel : u_at kl_198 96 = some (.getfield 189, [12, 11])) hW ha0 (by decide) rfl ?_
      obtain ⟨v12, hv12, hF⟩ := ob_some hF
      refine en_iald (by decide +kernel : u_at kl_198 99 = some (.iaload, [])) hW ha0 rfl (by decide) hv12 ?_
      obtain ⟨c12_13, hc12_13, hF⟩ := ob_some hF
      refine en_iast (by decide +kernel : u_at kl_198 100 = some (.iastore, [])) hW ha0 rfl (by decide) hc12_13 (fun h hW => ?_)
      have hW : HW (mkw c0 c1 c2 c3 c4 c5 c6 c7 c8 c9 c10 c11 c12_13 c13) d h := hW
      refine en_segs [(101, .aload_n 0, [])] (by decide +kernel) (y := (102, [some (.ref a0), some (.int ((48 * (cI r1 11 a0)) + (4 * v2)))], [.ref a0], h)) rfl ?_
      obtain ⟨r14, hr14, hF⟩ := ob_some hF
      refine en_vi (r := []) (by decide +kernel : u_at kl_198 102 = some (.invokevirtual 258, [197, 0, 12])) hW ha0 rfl rfl (Nat.le_of_ble_eq_true rfl) (e_197 (D := D) (by omega) hW ha0 hr14) (fun h hW => ?_)
      have hW : HW (mkw c0 c1 c2 c3 c4 c5 c6 c7 c8 c9 c10 c11 r14.2 c13) d h := hW
      refine en_if_ne (by decide +kernel : u_at kl_198 105 = some (.ifCond .ne 5, [110])) (fun b15 => ?_) (fun b15 => ?_)
      · replace hF := i_pos b15 hF
        refine en_segs [(108, .iconst 0, [])] (by decide +kernel) (y := (109, [some (.ref a0), some (.int ((48 * (cI r1 11 a0)) + (4 * v2)))], [.int 0], h)) rfl ?_
        obtain rfl := Option.some.inj hF
        exact en_ret (by decide +kernel : u_at kl_198 109 = some (.ireturn, [1])) rfl (hQ _ hW)
      · replace hF := i_neg b15 hF
        exact (g_198 (D := D) hD ha0 _ _ _ _ _ hF) _ rfl rfl rfl rfl  _ hW _ hQ
def F_199 (c12 : Cl) (a0 : Nat) (p1 : Int32) (p2 : Int32) (p3 : Int32) : Option (Int32 × Cl) :=
  F_183 c12 a0 p2 p3 >>= fun r1 =>
  if r1.1 = 0 then
  some (0, r1.2)
  else
  ast r1.2 7 a0 94 p1 (cI r1.2 10 a0) >>= fun c12_3 =>
  some (1, c12_3)
set_option maxRecDepth 100000 in
set_option maxHeartbeats 4000000 in
/-- HeadCountsModel.cellHere -/
theorem e_199 {D : Nat} {c0 c1 c2 c3 c4 c5 c6 c7 c8 c9 c10 c11 c12 c13 : Cl} {d : Ad} {h : UH} {a0 : Nat} {p1 : Int32} {p2 : Int32} {p3 : Int32} {r : (Int32 × Cl)} (hD : 3 ≤ D) (hW : HW (mkw c0 c1 c2 c3 c4 c5 c6 c7 c8 c9 c10 c11 c12 c13) d h) (ha0 : aK d a0 = (0, 12, 0)) (hF : F_199 c12 a0 p1 p2 p3 = some r) : ∃ q, EX D 199 [.ref a0, .int p1, .int p2, .int p3] h q ∧ q.1 = some (.int r.1) ∧ HW (mkw c0 c1 c2 c3 c4 c5 c6 c7 c8 c9 c10 c11 r.2 c13) d q.2 := by
  obtain ⟨D, rfl⟩ : ∃ E, D = E + 1 := ⟨D - 1, by omega⟩
  unfold F_199 at hF
  refine ex_in (kl := kl_199) (nL := 4) rfl (by decide +kernel) (Nat.le_of_ble_eq_true rfl) ?_
  obtain ⟨QQ, hQQ⟩ : ∃ QQ : UR → Prop, QQ = (fun q : UR => q.1 = some (.int r.1) ∧ HW (mkw c0 c1 c2 c3 c4 c5 c6 c7 c8 c9 c10 c11 r.2 c13) d q.2) := ⟨_, rfl⟩
  rw [← hQQ]
  have hQ : ∀ h' : UH, HW (mkw c0 c1 c2 c3 c4 c5 c6 c7 c8 c9 c10 c11 r.2 c13) d h' → QQ (some (.int r.1), h') := fun h' p => by rw [hQQ]; exact ⟨rfl, p⟩
  clear hQQ
  show Ends (EX D) (u_at kl_199) (0, [some (.ref a0), some (.int p1), some (.int p2), some (.int p3)], [], h) QQ
  refine en_segs [(0, .aload_n 0, []), (1, .iload_n 2, []), (2, .iload_n 3, [])] (by decide +kernel) (y := (3, [some (.ref a0), some (.int p1), some (.int p2), some (.int p3)], [.int p3, .int p2, .ref a0], h)) rfl ?_
  obtain ⟨r1, hr1, hF⟩ := ob_some hF
  refine en_vi (r := []) (by decide +kernel : u_at kl_199 3 = some (.invokevirtual 210, [183, 2, 12])) hW ha0 rfl rfl (Nat.le_of_ble_eq_true rfl) (e_183 (D := D) (by omega) hW ha0 hr1) (fun h hW => ?_)
  have hW : HW (mkw c0 c1 c2 c3 c4 c5 c6 c7 c8 c9 c10 c11 r1.2 c13) d h := hW
  refine en_if_ne (by decide +kernel : u_at kl_199 6 = some (.ifCond .ne 5, [11])) (fun b2 => ?_) (fun b2 => ?_)
  · replace hF := i_pos b2 hF
    refine en_segs [(9, .iconst 0, [])] (by decide +kernel) (y := (10, [some (.ref a0), some (.int p1), some (.int p2), some (.int p3)], [.int 0], h)) rfl ?_
    obtain rfl := Option.some.inj hF
    exact en_ret (by decide +kernel : u_at kl_199 10 = some (.ireturn, [1])) rfl (hQ _ hW)
  · replace hF := i_neg b2 hF
    refine en_segs [(11, .aload_n 0, [])] (by decide +kernel) (y := (12, [some (.ref a0), some (.int p1), some (.int p2), some (.int p3)], [.ref a0], h)) rfl ?_
    refine en_get (by decide +kernel : u_at kl_199 12 = some (.getfield 26, [12, 7])) hW ha0 (by decide) rfl ?_
    refine en_segs [(15, .iload_n 1, []), (16, .aload_n 0, [])] (by decide +kernel) (y := (17, [some (.ref a0), some (.int p1), some (.int p2), some (.int p3)], [.ref a0, .int p1, .ref (aP d 12 7 a0)], h)) rfl ?_
    refine en_get (by decide +kernel : u_at kl_199 17 = some (.getfield 158, [12, 10])) hW ha0 (by decide) rfl ?_
    obtain ⟨c12_3, hc12_3, hF⟩ := ob_some hF
    refine en_iast (by decide +kernel : u_at kl_199 20 = some (.iastore, [])) hW ha0 rfl (by decide) hc12_3 (fun h hW => ?_)
    have hW : HW (mkw c0 c1 c2 c3 c4 c5 c6 c7 c8 c9 c10 c11 c12_3 c13) d h := hW
    refine en_segs [(21, .iconst 1, [])] (by decide +kernel) (y := (22, [some (.ref a0), some (.int p1), some (.int p2), some (.int p3)], [.int 1], h)) rfl ?_
    obtain rfl := Option.some.inj hF
    exact en_ret (by decide +kernel : u_at kl_199 22 = some (.ireturn, [1])) rfl (hQ _ hW)
def G_200 (a0 : Nat) (lab : Nat) (xs : List Int32) (ys : List Int64) (zs : List Nat) (c12 : Cl) : Option (Int32 × Cl) := match lab, xs, ys, zs with
  | 0, [x2], [], [] =>
    if 6 ≤ x2 then
    some (1, c12)
    else
    ast c12 7 a0 94 (76 + x2) 0 >>= fun c12_9 =>
    ast c12_9 7 a0 94 (82 + x2) 99 >>= fun c12_10 =>
    G_200 a0 0 [x2 + 1] [] [] c12_10
  | _, _, _, _ => none
partial_fixpoint
set_option maxRecDepth 100000 in
set_option maxHeartbeats 4000000 in
theorem g_200 {D : Nat} (hD : 4 ≤ D + 1) {c0 c1 c2 c3 c4 c5 c6 c7 c8 c9 c10 c11 c13 : Cl} {d : Ad} {a0 : Nat} (ha0 : aK d a0 = (0, 12, 0)) : ∀ (lab : Nat) (xs : List Int32) (ys : List Int64) (zs : List Nat) (c12 : Cl) (r : (Int32 × Cl)), G_200 a0 lab xs ys zs c12 = some r →
    (∀ (x2 : Int32), lab = 0 → xs = [x2] → ys = [] → zs = [] → ∀ h : UH, HW (mkw c0 c1 c2 c3 c4 c5 c6 c7 c8 c9 c10 c11 c12 c13) d h → ∀ QQ : UR → Prop, (∀ h' : UH, HW (mkw c0 c1 c2 c3 c4 c5 c6 c7 c8 c9 c10 c11 r.2 c13) d h' → QQ (some (.int r.1), h')) → Ends (EX D) (u_at kl_200) (35, [some (.ref a0), none, some (.int x2)], [], h) QQ) := by
  refine G_200.partial_correctness _ (motive := fun lab xs ys zs c12 r =>
    (∀ (x2 : Int32), lab = 0 → xs = [x2] → ys = [] → zs = [] → ∀ h : UH, HW (mkw c0 c1 c2 c3 c4 c5 c6 c7 c8 c9 c10 c11 c12 c13) d h → ∀ QQ : UR → Prop, (∀ h' : UH, HW (mkw c0 c1 c2 c3 c4 c5 c6 c7 c8 c9 c10 c11 r.2 c13) d h' → QQ (some (.int r.1), h')) → Ends (EX D) (u_at kl_200) (35, [some (.ref a0), none, some (.int x2)], [], h) QQ)) ?_
  intro G ih lab xs ys zs c12 r hF
  · intro x2 e1 e2 e3 e4 h hW QQ hQ
    subst e1 e2 e3 e4
    refine en_segs [(35, .iload_n 2, []), (36, .bipush 6, [])] (by decide +kernel) (y := (38, [some (.ref a0), none, some (.int x2)], [.int 6, .int x2], h)) rfl ?_
    refine en_ic_ge (by decide +kernel : u_at kl_200 38 = some (.if_icmp .ge 30, [68])) (fun b8 => ?_) (fun b8 => ?_)
    · replace hF := i_pos b8 hF
      refine en_segs [(68, .iconst 1, [])] (by decide +kernel) (y := (69, [some (.ref a0), none, some (.int x2)], [.int 1], h)) rfl ?_
      obtain rfl := Option.some.inj hF
      exact en_ret (by decide +kernel : u_at kl_200 69 = some (.ireturn, [1])) rfl (hQ _ hW)
    · replace hF := i_neg b8 hF
      refine en_segs [(41, .aload_n 0, [])] (by decide +kernel) (y := (42, [some (.ref a0), none, some (.int x2)], [.ref a0], h)) rfl ?_
      refine en_get (by decide +kernel : u_at kl_200 42 = some (.getfield 26, [12, 7])) hW ha0 (by decide) rfl ?_
      refine en_segs [(45, .bipush 76, []), (47, .iload_n 2, []), (48, .iadd, []), (49, .iconst 0, [])] (by decide +kernel) (y := (50, [some (.ref a0), none, some (.int x2)], [.int 0, .int (76 + x2), .ref (aP d 12 7 a0)], h)) rfl ?_
      obtain ⟨c12_9, hc12_9, hF⟩ := ob_some hF
      refine en_iast (by decide +kernel : u_at kl_200 50 = some (.iastore, [])) hW ha0 rfl (by decide) hc12_9 (fun h hW => ?_)
      have hW : HW (mkw c0 c1 c2 c3 c4 c5 c6 c7 c8 c9 c10 c11 c12_9 c13) d h := hW
      refine en_segs [(51, .aload_n 0, [])] (by decide +kernel) (y := (52, [some (.ref a0), none, some (.int x2)], [.ref a0], h)) rfl ?_
      refine en_get (by decide +kernel : u_at kl_200 52 = some (.getfield 26, [12, 7])) hW ha0 (by decide) rfl ?_
      refine en_segs [(55, .bipush 82, []), (57, .iload_n 2, []), (58, .iadd, []), (59, .bipush 99, [])] (by decide +kernel) (y := (61, [some (.ref a0), none, some (.int x2)], [.int 99, .int (82 + x2), .ref (aP d 12 7 a0)], h)) rfl ?_
      obtain ⟨c12_10, hc12_10, hF⟩ := ob_some hF
      refine en_iast (by decide +kernel : u_at kl_200 61 = some (.iastore, [])) hW ha0 rfl (by decide) hc12_10 (fun h hW => ?_)
      have hW : HW (mkw c0 c1 c2 c3 c4 c5 c6 c7 c8 c9 c10 c11 c12_10 c13) d h := hW
      refine en_segs [(62, .iinc 2 1, []), (65, .goto (-30), [35])] (by decide +kernel) (y := (35, [some (.ref a0), none, some (.int (x2 + 1))], [], h)) rfl ?_
      exact (ih _ _ _ _ _ _ hF) _ rfl rfl rfl rfl  _ hW _ hQ
def F_200 (c12 : Cl) (a0 : Nat) (p1 : Int32) : Option (Int32 × Cl) :=
  ald (cA c12 7 a0) 94 0 >>= fun v1 =>
  if v1 ≤ 0 then
  F_181 c12 a0 >>= fun r3 =>
  F_199 r3 a0 0 2 6 >>= fun r4 =>
  if r4.1 = 0 then
  some (0, r4.2)
  else
  G_200 a0 0 [0] [] [] r4.2
  else
  F_176 c12 a0 4 p1 >>= fun r6 =>
  zb r6.1 >>= fun z7 => some (z7, r6.2)
set_option maxRecDepth 100000 in
set_option maxHeartbeats 4000000 in
/-- HeadCountsModel.areRoomsHere -/
theorem e_200 {D : Nat} {c0 c1 c2 c3 c4 c5 c6 c7 c8 c9 c10 c11 c12 c13 : Cl} {d : Ad} {h : UH} {a0 : Nat} {p1 : Int32} {r : (Int32 × Cl)} (hD : 4 ≤ D) (hW : HW (mkw c0 c1 c2 c3 c4 c5 c6 c7 c8 c9 c10 c11 c12 c13) d h) (ha0 : aK d a0 = (0, 12, 0)) (hF : F_200 c12 a0 p1 = some r) : ∃ q, EX D 200 [.ref a0, .int p1] h q ∧ q.1 = some (.int r.1) ∧ HW (mkw c0 c1 c2 c3 c4 c5 c6 c7 c8 c9 c10 c11 r.2 c13) d q.2 := by
  obtain ⟨D, rfl⟩ : ∃ E, D = E + 1 := ⟨D - 1, by omega⟩
  unfold F_200 at hF
  refine ex_in (kl := kl_200) (nL := 3) rfl (by decide +kernel) (Nat.le_of_ble_eq_true rfl) ?_
  obtain ⟨QQ, hQQ⟩ : ∃ QQ : UR → Prop, QQ = (fun q : UR => q.1 = some (.int r.1) ∧ HW (mkw c0 c1 c2 c3 c4 c5 c6 c7 c8 c9 c10 c11 r.2 c13) d q.2) := ⟨_, rfl⟩
  rw [← hQQ]
  have hQ : ∀ h' : UH, HW (mkw c0 c1 c2 c3 c4 c5 c6 c7 c8 c9 c10 c11 r.2 c13) d h' → QQ (some (.int r.1), h') := fun h' p => by rw [hQQ]; exact ⟨rfl, p⟩
  clear hQQ
  show Ends (EX D) (u_at kl_200) (0, [some (.ref a0), some (.int p1), none], [], h) QQ
  refine en_segs [(0, .aload_n 0, [])] (by decide +kernel) (y := (1, [some (.ref a0), some (.int p1), none], [.ref a0], h)) rfl ?_
  refine en_get (by decide +kernel : u_at kl_200 1 = some (.getfield 26, [12, 7])) hW ha0 (by decide) rfl ?_
  refine en_segs [(4, .iconst 0, [])] (by decide +kernel) (y := (5, [some (.ref a0), some (.int p1), none], [.int 0, .ref (aP d 12 7 a0)], h)) rfl ?_
  obtain ⟨v1, hv1, hF⟩ := ob_some hF
  refine en_iald (by decide +kernel : u_at kl_200 5 = some (.iaload, [])) hW ha0 rfl (by decide) hv1 ?_
  refine en_if_le (by decide +kernel : u_at kl_200 6 = some (.ifCond .le 10, [16])) (fun b2 => ?_) (fun b2 => ?_)
  · replace hF := i_pos b2 hF
    refine en_segs [(16, .aload_n 0, [])] (by decide +kernel) (y := (17, [some (.ref a0), some (.int p1), none], [.ref a0], h)) rfl ?_
    obtain ⟨r3, hr3, hF⟩ := ob_some hF
    refine en_vv (r := []) (by decide +kernel : u_at kl_200 17 = some (.invokevirtual 148, [181, 0, 12])) hW ha0 rfl rfl (Nat.le_of_ble_eq_true rfl) (e_181 (D := D) (by omega) hW ha0 hr3) (fun h hW => ?_)
    have hW : HW (mkw c0 c1 c2 c3 c4 c5 c6 c7 c8 c9 c10 c11 r3 c13) d h := hW
    refine en_segs [(20, .aload_n 0, []), (21, .iconst 0, []), (22, .iconst 2, []), (23, .bipush 6, [])] (by decide +kernel) (y := (25, [some (.ref a0), some (.int p1), none], [.int 6, .int 2, .int 0, .ref a0], h)) rfl ?_
    obtain ⟨r4, hr4, hF⟩ := ob_some hF
    refine en_vi (r := []) (by decide +kernel : u_at kl_200 25 = some (.invokevirtual 261, [199, 3, 12])) hW ha0 rfl rfl (Nat.le_of_ble_eq_true rfl) (e_199 (D := D) (by omega) hW ha0 hr4) (fun h hW => ?_)
    have hW : HW (mkw c0 c1 c2 c3 c4 c5 c6 c7 c8 c9 c10 c11 r4.2 c13) d h := hW
    refine en_if_ne (by decide +kernel : u_at kl_200 28 = some (.ifCond .ne 5, [33])) (fun b5 => ?_) (fun b5 => ?_)
    · replace hF := i_pos b5 hF
      refine en_segs [(31, .iconst 0, [])] (by decide +kernel) (y := (32, [some (.ref a0), some (.int p1), none], [.int 0], h)) rfl ?_
      obtain rfl := Option.some.inj hF
      exact en_ret (by decide +kernel : u_at kl_200 32 = some (.ireturn, [1])) rfl (hQ _ hW)
    · replace hF := i_neg b5 hF
      refine en_segs [(33, .iconst 0, []), (34, .istore_n 2, [])] (by decide +kernel) (y := (35, [some (.ref a0), some (.int p1), some (.int 0)], [], h)) rfl ?_
      refine en_fg (fg_k (fg_d (fg_k fg_0))) ?_
      exact (g_200 (D := D) hD ha0 _ _ _ _ _ _ hF) _ rfl rfl rfl rfl  _ hW _ hQ
  · replace hF := i_neg b2 hF
    refine en_segs [(9, .aload_n 0, []), (10, .iconst 4, []), (11, .iload_n 1, [])] (by decide +kernel) (y := (12, [some (.ref a0), some (.int p1), none], [.int p1, .int 4, .ref a0], h)) rfl ?_
    obtain ⟨r6, hr6, hF⟩ := ob_some hF
    refine en_vi (r := []) (by decide +kernel : u_at kl_200 12 = some (.invokevirtual 154, [176, 2, 12])) hW ha0 rfl rfl (Nat.le_of_ble_eq_true rfl) (e_176 (D := D) (by omega) hW ha0 hr6) (fun h hW => ?_)
    have hW : HW (mkw c0 c1 c2 c3 c4 c5 c6 c7 c8 c9 c10 c11 r6.2 c13) d h := hW
    obtain ⟨z7, hz7, hF⟩ := ob_some hF
    obtain rfl := Option.some.inj hF
    exact en_retZ (by decide +kernel : u_at kl_200 15 = some (.ireturn, [1])) hz7 (hQ _ hW)
def G_201 (c12 : Cl) (a0 : Nat) (lab : Nat) (xs : List Int32) (ys : List Int64) (zs : List Nat) : Option Int32 := match lab, xs, ys, zs with
  | 0, [x1, x2, x3], [], [] =>
    ald (cA c12 7 a0) 94 1 >>= fun v1 =>
    if v1 ≤ x3 then
    some (-1)
    else
    ald (cA c12 7 a0) 94 (10 + (3 * x3)) >>= fun v3 =>
    ald (cA c12 7 a0) 94 ((10 + (3 * x3)) + 1) >>= fun v4 =>
    if v3 = x1 then
    if v4 = x2 then
    some x3
    else
    G_201 c12 a0 1 [x1, x2, x3, v3, v4] [] []
    else
    G_201 c12 a0 1 [x1, x2, x3, v3, v4] [] []
  | 1, [x1, x2, x3, x4, x5], [], [] =>
    if x4 = x2 then
    if x5 = x1 then
    some x3
    else
    G_201 c12 a0 0 [x1, x2, x3 + 1] [] []
    else
    G_201 c12 a0 0 [x1, x2, x3 + 1] [] []
  | _, _, _, _ => none
partial_fixpoint
set_option maxRecDepth 100000 in
set_option maxHeartbeats 4000000 in
theorem g_201 {D : Nat} (hD : 1 ≤ D + 1) {c0 c1 c2 c3 c4 c5 c6 c7 c8 c9 c10 c11 c12 c13 : Cl} {d : Ad} {a0 : Nat} (ha0 : aK d a0 = (0, 12, 0)) : ∀ (lab : Nat) (xs : List Int32) (ys : List Int64) (zs : List Nat) (r : Int32), G_201 c12 a0 lab xs ys zs = some r →
    (∀ (x1 : Int32) (x2 : Int32) (x3 : Int32), lab = 0 → xs = [x1, x2, x3] → ys = [] → zs = [] → ∀ h : UH, HW (mkw c0 c1 c2 c3 c4 c5 c6 c7 c8 c9 c10 c11 c12 c13) d h → ∀ QQ : UR → Prop, QQ (some (.int r), h) → Ends (EX D) (u_at kl_201) (2, [some (.ref a0), some (.int x1), some (.int x2), some (.int x3), none, none], [], h) QQ) ∧
    (∀ (x1 : Int32) (x2 : Int32) (x3 : Int32) (x4 : Int32) (x5 : Int32), lab = 1 → xs = [x1, x2, x3, x4, x5] → ys = [] → zs = [] → ∀ h : UH, HW (mkw c0 c1 c2 c3 c4 c5 c6 c7 c8 c9 c10 c11 c12 c13) d h → ∀ QQ : UR → Prop, QQ (some (.int r), h) → Ends (EX D) (u_at kl_201) (52, [some (.ref a0), some (.int x1), some (.int x2), some (.int x3), some (.int x4), some (.int x5)], [], h) QQ) := by
  refine G_201.partial_correctness _ _ (motive := fun lab xs ys zs r =>
    (∀ (x1 : Int32) (x2 : Int32) (x3 : Int32), lab = 0 → xs = [x1, x2, x3] → ys = [] → zs = [] → ∀ h : UH, HW (mkw c0 c1 c2 c3 c4 c5 c6 c7 c8 c9 c10 c11 c12 c13) d h → ∀ QQ : UR → Prop, QQ (some (.int r), h) → Ends (EX D) (u_at kl_201) (2, [some (.ref a0), some (.int x1), some (.int x2), some (.int x3), none, none], [], h) QQ) ∧
    (∀ (x1 : Int32) (x2 : Int32) (x3 : Int32) (x4 : Int32) (x5 : Int32), lab = 1 → xs = [x1, x2, x3, x4, x5] → ys = [] → zs = [] → ∀ h : UH, HW (mkw c0 c1 c2 c3 c4 c5 c6 c7 c8 c9 c10 c11 c12 c13) d h → ∀ QQ : UR → Prop, QQ (some (.int r), h) → Ends (EX D) (u_at kl_201) (52, [some (.ref a0), some (.int x1), some (.int x2), some (.int x3), some (.int x4), some (.int x5)], [], h) QQ)) ?_
  intro G ih lab xs ys zs r hF
  refine ⟨?_, ?_⟩
  · intro x1 x2 x3 e1 e2 e3 e4 h hW QQ hQ
    subst e1 e2 e3 e4
    refine en_segs [(2, .iload_n 3, []), (3, .aload_n 0, [])] (by decide +kernel) (y := (4, [some (.ref a0), some (.int x1), some (.int x2), some (.int x3), none, none], [.ref a0, .int x3], h)) rfl ?_
    refine en_get (by decide +kernel : u_at kl_201 4 = some (.getfield 26, [12, 7])) hW ha0 (by decide) rfl ?_
    refine en_segs [(7, .iconst 1, [])] (by decide +kernel) (y := (8, [some (.ref a0), some (.int x1), some (.int x2), some (.int x3), none, none], [.int 1, .ref (aP d 12 7 a0), .int x3], h)) rfl ?_
    obtain ⟨v1, hv1, hF⟩ := ob_some hF
    refine en_iald (by decide +kernel : u_at kl_201 8 = some (.iaload, [])) hW ha0 rfl (by decide) hv1 ?_
    refine en_ic_ge (by decide +kernel : u_at kl_201 9 = some (.if_icmp .ge 63, [72])) (fun b2 => ?_) (fun b2 => ?_)
    · replace hF := i_pos b2 hF
      refine en_segs [(72, .iconst (-1), [])] (by decide +kernel) (y := (73, [some (.ref a0), some (.int x1), some (.int x2), some (.int x3), none, none], [.int (-1)], h)) rfl ?_
      obtain rfl := Option.some.inj hF
      exact en_ret (by decide +kernel : u_at kl_201 73 = some (.ireturn, [0])) rfl (hQ)
    · replace hF := i_neg b2 hF
      refine en_segs [(12, .aload_n 0, [])] (by decide +kernel) (y := (13, [some (.ref a0), some (.int x1), some (.int x2), some (.int x3), none, none], [.ref a0], h)) rfl ?_
      refine en_get (by decide +kernel : u_at kl_201 13 = some (.getfield 26, [12, 7])) hW ha0 (by decide) rfl ?_
      refine en_segs [(16, .bipush 10, []), (18, .iconst 3, []), (19, .iload_n 3, []), (20, .imul, []), (21, .iadd, [])] (by decide +kernel) (y := (22, [some (.ref a0), some (.int x1), some (.int x2), some (.int x3), none, none], [.int (10 + (3 * x3)), .ref (aP d 12 7 a0)], h)) rfl ?_
      obtain ⟨v3, hv3, hF⟩ := ob_some hF
      refine en_iald (by decide +kernel : u_at kl_201 22 = some (.iaload, [])) hW ha0 rfl (by decide) hv3 ?_
      refine en_segs [(23, .istore 4, []), (25, .aload_n 0, [])] (by decide +kernel) (y := (26, [some (.ref a0), some (.int x1), some (.int x2), some (.int x3), some (.int v3), none], [.ref a0], h)) rfl ?_
      refine en_get (by decide +kernel : u_at kl_201 26 = some (.getfield 26, [12, 7])) hW ha0 (by decide) rfl ?_
      refine en_segs [(29, .bipush 10, []), (31, .iconst 3, []), (32, .iload_n 3, []), (33, .imul, []), (34, .iadd, []), (35, .iconst 1, []), (36, .iadd, [])] (by decide +kernel) (y := (37, [some (.ref a0), some (.int x1), some (.int x2), some (.int x3), some (.int v3), none], [.int ((10 + (3 * x3)) + 1), .ref (aP d 12 7 a0)], h)) rfl ?_
      obtain ⟨v4, hv4, hF⟩ := ob_some hF
      refine en_iald (by decide +kernel : u_at kl_201 37 = some (.iaload, [])) hW ha0 rfl (by decide) hv4 ?_
      refine en_segs [(38, .istore 5, []), (40, .iload 4, []), (42, .iload_n 1, [])] (by decide +kernel) (y := (43, [some (.ref a0), some (.int x1), some (.int x2), some (.int x3), some (.int v3), some (.int v4)], [.int x1, .int v3], h)) rfl ?_
      refine en_ic_ne (by decide +kernel : u_at kl_201 43 = some (.if_icmp .ne 9, [52])) (fun b5 => ?_) (fun b5 => ?_)
      · replace hF := i_pos b5 hF
        refine en_segs [(46, .iload 5, []), (48, .iload_n 2, [])] (by decide +kernel) (y := (49, [some (.ref a0), some (.int x1), some (.int x2), some (.int x3), some (.int v3), some (.int v4)], [.int x2, .int v4], h)) rfl ?_
        refine en_ic_eq (by decide +kernel : u_at kl_201 49 = some (.if_icmp .eq 15, [64])) (fun b6 => ?_) (fun b6 => ?_)
        · replace hF := i_pos b6 hF
          refine en_segs [(64, .iload_n 3, [])] (by decide +kernel) (y := (65, [some (.ref a0), some (.int x1), some (.int x2), some (.int x3), some (.int v3), some (.int v4)], [.int x3], h)) rfl ?_
          obtain rfl := Option.some.inj hF
          exact en_ret (by decide +kernel : u_at kl_201 65 = some (.ireturn, [0])) rfl (hQ)
        · replace hF := i_neg b6 hF
          exact (ih _ _ _ _ _ hF).2 _ _ _ _ _ rfl rfl rfl rfl  _ hW _ hQ
      · replace hF := i_neg b5 hF
        exact (ih _ _ _ _ _ hF).2 _ _ _ _ _ rfl rfl rfl rfl  _ hW _ hQ
  · intro x1 x2 x3 x4 x5 e1 e2 e3 e4 h hW QQ hQ
    subst e1 e2 e3 e4
    refine en_segs [(52, .iload 4, []), (54, .iload_n 2, [])] (by decide +kernel) (y := (55, [some (.ref a0), some (.int x1), some (.int x2), some (.int x3), some (.int x4), some (.int x5)], [.int x2, .int x4], h)) rfl ?_
    refine en_ic_ne (by decide +kernel : u_at kl_201 55 = some (.if_icmp .ne 11, [66])) (fun b7 => ?_) (fun b7 => ?_)
    · replace hF := i_pos b7 hF
      refine en_segs [(58, .iload 5, []), (60, .iload_n 1, [])] (by decide +kernel) (y := (61, [some (.ref a0), some (.int x1), some (.int x2), some (.int x3), some (.int x4), some (.int x5)], [.int x1, .int x5], h)) rfl ?_
      refine en_ic_ne (by decide +kernel : u_at kl_201 61 = some (.if_icmp .ne 5, [66])) (fun b8 => ?_) (fun b8 => ?_)
      · replace hF := i_pos b8 hF
        refine en_segs [(64, .iload_n 3, [])] (by decide +kernel) (y := (65, [some (.ref a0), some (.int x1), some (.int x2), some (.int x3), some (.int x4), some (.int x5)], [.int x3], h)) rfl ?_
        obtain rfl := Option.some.inj hF
        exact en_ret (by decide +kernel : u_at kl_201 65 = some (.ireturn, [0])) rfl (hQ)
      · replace hF := i_neg b8 hF
        refine en_segs [(66, .iinc 3 1, []), (69, .goto (-67), [2])] (by decide +kernel) (y := (2, [some (.ref a0), some (.int x1), some (.int x2), some (.int (x3 + 1)), some (.int x4), some (.int x5)], [], h)) rfl ?_
        refine en_fg (fg_k (fg_k (fg_k (fg_k (fg_d (fg_d fg_0)))))) ?_
        exact (ih _ _ _ _ _ hF).1 _ _ _ rfl rfl rfl rfl  _ hW _ hQ
    · replace hF := i_neg b7 hF
      refine en_segs [(66, .iinc 3 1, []), (69, .goto (-67), [2])] (by decide +kernel) (y := (2, [some (.ref a0), some (.int x1), some (.int x2), some (.int (x3 + 1)), some (.int x4), some (.int x5)], [], h)) rfl ?_
      refine en_fg (fg_k (fg_k (fg_k (fg_k (fg_d (fg_d fg_0)))))) ?_
      exact (ih _ _ _ _ _ hF).1 _ _ _ rfl rfl rfl rfl  _ hW _ hQ
def F_201 (c12 : Cl) (a0 : Nat) (p1 : Int32) (p2 : Int32) : Option Int32 :=
  G_201 c12 a0 0 [p1, p2, 0] [] []
set_option maxRecDepth 100000 in
set_option maxHeartbeats 4000000 in
/-- HeadCountsModel.readDoor -/
theorem e_201 {D : Nat} {c0 c1 c2 c3 c4 c5 c6 c7 c8 c9 c10 c11 c12 c13 : Cl} {d : Ad} {h : UH} {a0 : Nat} {p1 : Int32} {p2 : Int32} {r : Int32} (hD : 1 ≤ D) (hW : HW (mkw c0 c1 c2 c3 c4 c5 c6 c7 c8 c9 c10 c11 c12 c13) d h) (ha0 : aK d a0 = (0, 12, 0)) (hF : F_201 c12 a0 p1 p2 = some r) : ∃ q, EX D 201 [.ref a0, .int p1, .int p2] h q ∧ q.1 = some (.int r) ∧ h = q.2 := by
  obtain ⟨D, rfl⟩ : ∃ E, D = E + 1 := ⟨D - 1, by omega⟩
  unfold F_201 at hF
  refine ex_in (kl := kl_201) (nL := 6) rfl (by decide +kernel) (Nat.le_of_ble_eq_true rfl) ?_
  obtain ⟨QQ, hQQ⟩ : ∃ QQ : UR → Prop, QQ = (fun q : UR => q.1 = some (.int r) ∧ h = q.2) := ⟨_, rfl⟩
  rw [← hQQ]
  have hQ : QQ (some (.int r), h) := by rw [hQQ]; exact ⟨rfl, rfl⟩
  clear hQQ
  show Ends (EX D) (u_at kl_201) (0, [some (.ref a0), some (.int p1), some (.int p2), none, none, none], [], h) QQ
  refine en_segs [(0, .iconst 0, []), (1, .istore_n 3, [])] (by decide +kernel) (y := (2, [some (.ref a0), some (.int p1), some (.int p2), some (.int 0), none, none], [], h)) rfl ?_
  exact (g_201 (D := D) hD ha0 _ _ _ _ _ hF).1 _ _ _ rfl rfl rfl rfl  _ hW _ hQ
def G_202 (c12 : Cl) (a0 : Nat) (lab : Nat) (xs : List Int32) (ys : List Int64) (zs : List Nat) : Option (Int32 × Cl) := match lab, xs, ys, zs with
  | 0, [x3], [], [] =>
    F_176 c12 a0 1 x3 >>= fun r24 =>
    zb r24.1 >>= fun z25 => some (z25, r24.2)
  | _, _, _, _ => none
set_option maxRecDepth 100000 in
set_option maxHeartbeats 4000000 in
theorem g_202 {D : Nat} (hD : 4 ≤ D + 1) {c0 c1 c2 c3 c4 c5 c6 c7 c8 c9 c10 c11 c12 c13 : Cl} {d : Ad} {a0 : Nat} (ha0 : aK d a0 = (0, 12, 0)) : ∀ (lab : Nat) (xs : List Int32) (ys : List Int64) (zs : List Nat) (r : (Int32 × Cl)), G_202 c12 a0 lab xs ys zs = some r →
    (∀ (x3 : Int32), lab = 0 → xs = [x3] → ys = [] → zs = [] → ∀ h : UH, HW (mkw c0 c1 c2 c3 c4 c5 c6 c7 c8 c9 c10 c11 c12 c13) d h → ∀ QQ : UR → Prop, (∀ h' : UH, HW (mkw c0 c1 c2 c3 c4 c5 c6 c7 c8 c9 c10 c11 r.2 c13) d h' → QQ (some (.int r.1), h')) → Ends (EX D) (u_at kl_202) (122, [some (.ref a0), none, none, some (.int x3)], [], h) QQ) := by
  intro lab xs ys zs r hF
  unfold G_202 at hF
  · intro x3 e1 e2 e3 e4 h hW QQ hQ
    subst e1 e2 e3 e4
    refine en_segs [(122, .aload_n 0, []), (123, .iconst 1, []), (124, .iload_n 3, [])] (by decide +kernel) (y := (125, [some (.ref a0), none, none, some (.int x3)], [.int x3, .int 1, .ref a0], h)) rfl ?_
    obtain ⟨r24, hr24, hF⟩ := ob_some hF
    refine en_vi (r := []) (by decide +kernel : u_at kl_202 125 = some (.invokevirtual 154, [176, 2, 12])) hW ha0 rfl rfl (Nat.le_of_ble_eq_true rfl) (e_176 (D := D) (by omega) hW ha0 hr24) (fun h hW => ?_)
    have hW : HW (mkw c0 c1 c2 c3 c4 c5 c6 c7 c8 c9 c10 c11 r24.2 c13) d h := hW
    obtain ⟨z25, hz25, hF⟩ := ob_some hF
    obtain rfl := Option.some.inj hF
    exact en_retZ (by decide +kernel : u_at kl_202 128 = some (.ireturn, [1])) hz25 (hQ _ hW)
def F_202 (c12 : Cl) (a0 : Nat) (p1 : Int32) : Option (Int32 × Cl) :=
  ald (cA c12 7 a0) 94 1 >>= fun v1 =>
  if v1 = 10 then
  F_176 c12 a0 4 p1 >>= fun r3 =>
  zb r3.1 >>= fun z4 => some (z4, r3.2)
  else
  F_181 c12 a0 >>= fun r5 =>
  ald (cA r5 7 a0) 94 1 >>= fun v6 =>
  ald (cA r5 7 a0) 94 0 >>= fun v7 =>
  F_199 r5 a0 (10 + (3 * v6)) 0 (v7 - 1) >>= fun r8 =>
  if r8.1 = 0 then
  some (0, r8.2)
  else
  F_177 r8.2 a0 >>= fun r10 =>
  ald (cA r10.2 7 a0) 94 0 >>= fun v11 =>
  F_199 r10.2 a0 ((10 + (3 * v6)) + 1) 0 (v11 - 1) >>= fun r12 =>
  if r12.1 = 0 then
  some (0, r12.2)
  else
  ald (cA r12.2 7 a0) 94 (10 + (3 * v6)) >>= fun v14 =>
  ald (cA r12.2 7 a0) 94 ((10 + (3 * v6)) + 1) >>= fun v15 =>
  if v14 = v15 then
  G_202 r12.2 a0 0 [cI r10.2 8 a0] [] []
  else
  ald (cA r12.2 7 a0) 94 (10 + (3 * v6)) >>= fun v17 =>
  ald (cA r12.2 7 a0) 94 ((10 + (3 * v6)) + 1) >>= fun v18 =>
  F_201 r12.2 a0 v17 v18 >>= fun r19 =>
  if r19 < 0 then
  ast r12.2 7 a0 94 ((10 + (3 * v6)) + 2) 1 >>= fun c12_21 =>
  ald (cA c12_21 7 a0) 94 1 >>= fun v22 =>
  ast c12_21 7 a0 94 1 (v22 + 1) >>= fun c12_23 =>
  some (1, c12_23)
  else
  G_202 r12.2 a0 0 [cI r10.2 8 a0] [] []
set_option maxRecDepth 100000 in
set_option maxHeartbeats 4000000 in
/-- HeadCountsModel.isDoorHere -/
theorem e_202 {D : Nat} {c0 c1 c2 c3 c4 c5 c6 c7 c8 c9 c10 c11 c12 c13 : Cl} {d : Ad} {h : UH} {a0 : Nat} {p1 : Int32} {r : (Int32 × Cl)} (hD : 4 ≤ D) (hW : HW (mkw c0 c1 c2 c3 c4 c5 c6 c7 c8 c9 c10 c11 c12 c13) d h) (ha0 : aK d a0 = (0, 12, 0)) (hF : F_202 c12 a0 p1 = some r) : ∃ q, EX D 202 [.ref a0, .int p1] h q ∧ q.1 = some (.int r.1) ∧ HW (mkw c0 c1 c2 c3 c4 c5 c6 c7 c8 c9 c10 c11 r.2 c13) d q.2 := by
  obtain ⟨D, rfl⟩ : ∃ E, D = E + 1 := ⟨D - 1, by omega⟩
  unfold F_202 at hF
  refine ex_in (kl := kl_202) (nL := 4) rfl (by decide +kernel) (Nat.le_of_ble_eq_true rfl) ?_
  obtain ⟨QQ, hQQ⟩ : ∃ QQ : UR → Prop, QQ = (fun q : UR => q.1 = some (.int r.1) ∧ HW (mkw c0 c1 c2 c3 c4 c5 c6 c7 c8 c9 c10 c11 r.2 c13) d q.2) := ⟨_, rfl⟩
  rw [← hQQ]
  have hQ : ∀ h' : UH, HW (mkw c0 c1 c2 c3 c4 c5 c6 c7 c8 c9 c10 c11 r.2 c13) d h' → QQ (some (.int r.1), h') := fun h' p => by rw [hQQ]; exact ⟨rfl, p⟩
  clear hQQ
  show Ends (EX D) (u_at kl_202) (0, [some (.ref a0), some (.int p1), none, none], [], h) QQ
  refine en_segs [(0, .aload_n 0, [])] (by decide +kernel) (y := (1, [some (.ref a0), some (.int p1), none, none], [.ref a0], h)) rfl ?_
  refine en_get (by decide +kernel : u_at kl_202 1 = some (.getfield 26, [12, 7])) hW ha0 (by decide) rfl ?_
  refine en_segs [(4, .iconst 1, [])] (by decide +kernel) (y := (5, [some (.ref a0), some (.int p1), none, none], [.int 1, .ref (aP d 12 7 a0)], h)) rfl ?_
  obtain ⟨v1, hv1, hF⟩ := ob_some hF
  refine en_iald (by decide +kernel : u_at kl_202 5 = some (.iaload, [])) hW ha0 rfl (by decide) hv1 ?_
  refine en_segs [(6, .bipush 10, [])] (by decide +kernel) (y := (8, [some (.ref a0), some (.int p1), none, none], [.int 10, .int v1], h)) rfl ?_
  refine en_ic_ne (by decide +kernel : u_at kl_202 8 = some (.if_icmp .ne 10, [18])) (fun b2 => ?_) (fun b2 => ?_)
  · replace hF := i_pos b2 hF
    refine en_segs [(11, .aload_n 0, []), (12, .iconst 4, []), (13, .iload_n 1, [])] (by decide +kernel) (y := (14, [some (.ref a0), some (.int p1), none, none], [.int p1, .int 4, .ref a0], h)) rfl ?_
    obtain ⟨r3, hr3, hF⟩ := ob_some hF
    refine en_vi (r := []) (by decide +kernel : u_at kl_202 14 = some (.invokevirtual 154, [176, 2, 12])) hW ha0 rfl rfl (Nat.le_of_ble_eq_true rfl) (e_176 (D := D) (by omega) hW ha0 hr3) (fun h hW => ?_)
    have hW : HW (mkw c0 c1 c2 c3 c4 c5 c6 c7 c8 c9 c10 c11 r3.2 c13) d h := hW
    obtain ⟨z4, hz4, hF⟩ := ob_some hF
    obtain rfl := Option.some.inj hF
    exact en_retZ (by decide +kernel : u_at kl_202 17 = some (.ireturn, [1])) hz4 (hQ _ hW)
  · replace hF := i_neg b2 hF
    refine en_segs [(18, .aload_n 0, [])] (by decide +kernel) (y := (19, [some (.ref a0), some (.int p1), none, none], [.ref a0], h)) rfl ?_
    obtain ⟨r5, hr5, hF⟩ := ob_some hF
    refine en_vv (r := []) (by decide +kernel : u_at kl_202 19 = some (.invokevirtual 148, [181, 0, 12])) hW ha0 rfl rfl (Nat.le_of_ble_eq_true rfl) (e_181 (D := D) (by omega) hW ha0 hr5) (fun h hW => ?_)
    have hW : HW (mkw c0 c1 c2 c3 c4 c5 c6 c7 c8 c9 c10 c11 r5 c13) d h := hW
    refine en_segs [(22, .bipush 10, []), (24, .iconst 3, []), (25, .aload_n 0, [])] (by decide +kernel) (y := (26, [some (.ref a0), some (.int p1), none, none], [.ref a0, .int 3, .int 10], h)) rfl ?_
    refine en_get (by decide +kernel : u_at kl_202 26 = some (.getfield 26, [12, 7])) hW ha0 (by decide) rfl ?_
    refine en_segs [(29, .iconst 1, [])] (by decide +kernel) (y := (30, [some (.ref a0), some (.int p1), none, none], [.int 1, .ref (aP d 12 7 a0), .int 3, .int 10], h)) rfl ?_
    obtain ⟨v6, hv6, hF⟩ := ob_some hF
    refine en_iald (by decide +kernel : u_at kl_202 30 = some (.iaload, [])) hW ha0 rfl (by decide) hv6 ?_
    refine en_segs [(31, .imul, []), (32, .iadd, []), (33, .istore_n 2, []), (34, .aload_n 0, []), (35, .iload_n 2, []), (36, .iconst 0, []), (37, .aload_n 0, [])] (by decide +kernel) (y := (38, [some (.ref a0), some (.int p1), some (.int (10 + (3 * v6))), none], [.ref a0, .int 0, .int (10 + (3 * v6)), .ref a0], h)) rfl ?_
    refine en_get (by decide +kernel : u_at kl_202 38 = some (.getfield 26, [12, 7])) hW ha0 (by decide) rfl ?_
    refine en_segs [(41, .iconst 0, [])] (by decide +kernel) (y := (42, [some (.ref a0), some (.int p1), some (.int (10 + (3 * v6))), none], [.int 0, .ref (aP d 12 7 a0), .int 0, .int (10 + (3 * v6)), .ref a0], h)) rfl ?_
    obtain ⟨v7, hv7, hF⟩ := ob_some hF
    refine en_iald (by decide +kernel : u_at kl_202 42 = some (.iaload, [])) hW ha0 rfl (by decide) hv7 ?_
    refine en_segs [(43, .iconst 1, []), (44, .isub, [])] (by decide +kernel) (y := (45, [some (.ref a0), some (.int p1), some (.int (10 + (3 * v6))), none], [.int (v7 - 1), .int 0, .int (10 + (3 * v6)), .ref a0], h)) rfl ?_
    obtain ⟨r8, hr8, hF⟩ := ob_some hF
    refine en_vi (r := []) (by decide +kernel : u_at kl_202 45 = some (.invokevirtual 261, [199, 3, 12])) hW ha0 rfl rfl (Nat.le_of_ble_eq_true rfl) (e_199 (D := D) (by omega) hW ha0 hr8) (fun h hW => ?_)
    have hW : HW (mkw c0 c1 c2 c3 c4 c5 c6 c7 c8 c9 c10 c11 r8.2 c13) d h := hW
    refine en_if_ne (by decide +kernel : u_at kl_202 48 = some (.ifCond .ne 5, [53])) (fun b9 => ?_) (fun b9 => ?_)
    · replace hF := i_pos b9 hF
      refine en_segs [(51, .iconst 0, [])] (by decide +kernel) (y := (52, [some (.ref a0), some (.int p1), some (.int (10 + (3 * v6))), none], [.int 0], h)) rfl ?_
      obtain rfl := Option.some.inj hF
      exact en_ret (by decide +kernel : u_at kl_202 52 = some (.ireturn, [1])) rfl (hQ _ hW)
    · replace hF := i_neg b9 hF
      refine en_segs [(53, .aload_n 0, [])] (by decide +kernel) (y := (54, [some (.ref a0), some (.int p1), some (.int (10 + (3 * v6))), none], [.ref a0], h)) rfl ?_
      obtain ⟨r10, hr10, hF⟩ := ob_some hF
      refine en_vi (r := []) (by decide +kernel : u_at kl_202 54 = some (.invokevirtual 136, [177, 0, 12])) hW ha0 rfl rfl (Nat.le_of_ble_eq_true rfl) (e_177 (D := D) (by omega) hW ha0 hr10) (fun h hW => ?_)
      have hW : HW (mkw c0 c1 c2 c3 c4 c5 c6 c7 c8 c9 c10 c11 r10.2 c13) d h := hW
      refine en_segs [(57, .pop, []), (58, .aload_n 0, [])] (by decide +kernel) (y := (59, [some (.ref a0), some (.int p1), some (.int (10 + (3 * v6))), none], [.ref a0], h)) rfl ?_
      refine en_get (by decide +kernel : u_at kl_202 59 = some (.getfield 133, [12, 8])) hW ha0 (by decide) rfl ?_
      refine en_segs [(62, .istore_n 3, []), (63, .aload_n 0, []), (64, .iload_n 2, []), (65, .iconst 1, []), (66, .iadd, []), (67, .iconst 0, []), (68, .aload_n 0, [])] (by decide +kernel) (y := (69, [some (.ref a0), some (.int p1), some (.int (10 + (3 * v6))), some (.int (cI r10.2 8 a0))], [.ref a0, .int 0, .int ((10 + (3 * v6)) + 1), .ref a0], h)) rfl ?_
      refine en_get (by decide +kernel : u_at kl_202 69 = some (.getfield 26, [12, 7])) hW ha0 (by decide) rfl ?_
      refine en_segs [(72, .iconst 0, [])] (by decide +kernel) (y := (73, [some (.ref a0), some (.int p1), some (.int (10 + (3 * v6))), some (.int (cI r10.2 8 a0))], [.int 0, .ref (aP d 12 7 a0), .int 0, .int ((10 + (3 * v6)) + 1), .ref a0], h)) rfl ?_
      obtain ⟨v11, hv11, hF⟩ := ob_some hF
      refine en_iald (by decide +kernel : u_at kl_202 73 = some (.iaload, [])) hW ha0 rfl (by decide) hv11 ?_
      refine en_segs [(74, .iconst 1, []), (75, .isub, [])] (by decide +kernel) (y := (76, [some (.ref a0), some (.int p1), some (.int (10 + (3 * v6))), some (.int (cI r10.2 8 a0))], [.int (v11 - 1), .int 0, .int ((10 + (3 * v6)) + 1), .ref a0], h)) rfl ?_
      obtain ⟨r12, hr12, hF⟩ := ob_some hF
      refine en_vi (r := []) (by decide +kernel : u_at kl_202 76 = some (.invokevirtual 261, [199, 3, 12])) hW ha0 rfl rfl (Nat.le_of_ble_eq_true rfl) (e_199 (D := D) (by omega) hW ha0 hr12) (fun h hW => ?_)
      have hW : HW (mkw c0 c1 c2 c3 c4 c5 c6 c7 c8 c9 c10 c11 r12.2 c13) d h := hW
      refine en_if_ne (by decide +kernel : u_at kl_202 79 = some (.ifCond .ne 5, [84])) (fun b13 => ?_) (fun b13 => ?_)
      · replace hF := i_pos b13 hF
        refine en_segs [(82, .iconst 0, [])] (by decide +kernel) (y := (83, [some (.ref a0), some (.int p1), some (.int (10 + (3 * v6))), some (.int (cI r10.2 8 a0))], [.int 0], h)) rfl ?_
        obtain rfl := Option.some.inj hF
        exact en_ret (by decide +kernel : u_at kl_202 83 = some (.ireturn, [1])) rfl (hQ _ hW)
      · replace hF := i_neg b13 hF
        refine en_segs [(84, .aload_n 0, [])] (by decide +kernel) (y := (85, [some (.ref a0), some (.int p1), some (.int (10 + (3 * v6))), some (.int (cI r10.2 8 a0))], [.ref a0], h)) rfl ?_
        refine en_get (by decide +kernel : u_at kl_202 85 = some (.getfield 26, [12, 7])) hW ha0 (by decide) rfl ?_
        refine en_segs [(88, .iload_n 2, [])] (by decide +kernel) (y := (89, [some (.ref a0), some (.int p1), some (.int (10 + (3 * v6))), some (.int (cI r10.2 8 a0))], [.int (10 + (3 * v6)), .ref (aP d 12 7 a0)], h)) rfl ?_
        obtain ⟨v14, hv14, hF⟩ := ob_some hF
        refine en_iald (by decide +kernel : u_at kl_202 89 = some (.iaload, [])) hW ha0 rfl (by decide) hv14 ?_
        refine en_segs [(90, .aload_n 0, [])] (by decide +kernel) (y := (91, [some (.ref a0), some (.int p1), some (.int (10 + (3 * v6))), some (.int (cI r10.2 8 a0))], [.ref a0, .int v14], h)) rfl ?_
        refine en_get (by decide +kernel : u_at kl_202 91 = some (.getfield 26, [12, 7])) hW ha0 (by decide) rfl ?_
        refine en_segs [(94, .iload_n 2, []), (95, .iconst 1, []), (96, .iadd, [])] (by decide +kernel) (y := (97, [some (.ref a0), some (.int p1), some (.int (10 + (3 * v6))), some (.int (cI r10.2 8 a0))], [.int ((10 + (3 * v6)) + 1), .ref (aP d 12 7 a0), .int v14], h)) rfl ?_
        obtain ⟨v15, hv15, hF⟩ := ob_some hF
        refine en_iald (by decide +kernel : u_at kl_202 97 = some (.iaload, [])) hW ha0 rfl (by decide) hv15 ?_
        refine en_ic_eq (by decide +kernel : u_at kl_202 98 = some (.if_icmp .eq 24, [122])) (fun b16 => ?_) (fun b16 => ?_)
        · replace hF := i_pos b16 hF
          refine en_fg (fg_k (fg_d (fg_d (fg_k fg_0)))) ?_
          exact (g_202 (D := D) hD ha0 _ _ _ _ _ hF) _ rfl rfl rfl rfl  _ hW _ hQ
        · replace hF := i_neg b16 hF
          refine en_segs [(101, .aload_n 0, []), (102, .aload_n 0, [])] (by decide +kernel) (y := (103, [some (.ref a0), some (.int p1), some (.int (10 + (3 * v6))), some (.int (cI r10.2 8 a0))], [.ref a0, .ref a0], h)) rfl ?_
          refine en_get (by decide +kernel : u_at kl_202 103 = some (.getfield 26, [12, 7])) hW ha0 (by decide) rfl ?_
          refine en_segs [(106, .iload_n 2, [])] (by decide +kernel) (y := (107, [some (.ref a0), some (.int p1), some (.int (10 + (3 * v6))), some (.int (cI r10.2 8 a0))], [.int (10 + (3 * v6)), .ref (aP d 12 7 a0), .ref a0], h)) rfl ?_
          obtain ⟨v17, hv17, hF⟩ := ob_some hF
          refine en_iald (by decide +kernel : u_at kl_202 107 = some (.iaload, [])) hW ha0 rfl (by decide) hv17 ?_
          refine en_segs [(108, .aload_n 0, [])] (by decide +kernel) (y := (109, [some (.ref a0), some (.int p1), some (.int (10 + (3 * v6))), some (.int (cI r10.2 8 a0))], [.ref a0, .int v17, .ref a0], h)) rfl ?_
          refine en_get (by decide +kernel : u_at kl_202 109 = some (.getfield 26, [12, 7])) hW ha0 (by decide) rfl ?_
          refine en_segs [(112, .iload_n 2, []), (113, .iconst 1, []), (114, .iadd, [])] (by decide +kernel) (y := (115, [some (.ref a0), some (.int p1), some (.int (10 + (3 * v6))), some (.int (cI r10.2 8 a0))], [.int ((10 + (3 * v6)) + 1), .ref (aP d 12 7 a0), .int v17, .ref a0], h)) rfl ?_
          obtain ⟨v18, hv18, hF⟩ := ob_some hF
          refine en_iald (by decide +kernel : u_at kl_202 115 = some (.iaload, [])) hW ha0 rfl (by decide) hv18 ?_
          obtain ⟨r19, hr19, hF⟩ := ob_some hF
          refine en_vi (r := []) (by decide +kernel : u_at kl_202 116 = some (.invokevirtual 265, [201, 2, 12])) hW ha0 rfl rfl (Nat.le_of_ble_eq_true rfl) (e_201 (D := D) (by omega) hW ha0 hr19) (fun h' q => ?_)
          subst q
          refine en_if_lt (by decide +kernel : u_at kl_202 119 = some (.ifCond .lt 10, [129])) (fun b20 => ?_) (fun b20 => ?_)
          · replace hF := i_pos b20 hF
            refine en_segs [(129, .aload_n 0, [])] (by decide +kernel) (y := (130, [some (.ref a0), some (.int p1), some (.int (10 + (3 * v6))), some (.int (cI r10.2 8 a0))], [.ref a0], h)) rfl ?_
            refine en_get (by decide +kernel : u_at kl_202 130 = some (.getfield 26, [12, 7])) hW ha0 (by decide) rfl ?_
            refine en_segs [(133, .iload_n 2, []), (134, .iconst 2, []), (135, .iadd, []), (136, .iconst 1, [])] (by decide +kernel) (y := (137, [some (.ref a0), some (.int p1), some (.int (10 + (3 * v6))), some (.int (cI r10.2 8 a0))], [.int 1, .int ((10 + (3 * v6)) + 2), .ref (aP d 12 7 a0)], h)) rfl ?_
            obtain ⟨c12_21, hc12_21, hF⟩ := ob_some hF
            refine en_iast (by decide +kernel : u_at kl_202 137 = some (.iastore, [])) hW ha0 rfl (by decide) hc12_21 (fun h hW => ?_)
            have hW : HW (mkw c0 c1 c2 c3 c4 c5 c6 c7 c8 c9 c10 c11 c12_21 c13) d h := hW
            refine en_segs [(138, .aload_n 0, [])] (by decide +kernel) (y := (139, [some (.ref a0), some (.int p1), some (.int (10 + (3 * v6))), some (.int (cI r10.2 8 a0))], [.ref a0], h)) rfl ?_
            refine en_get (by decide +kernel : u_at kl_202 139 = some (.getfield 26, [12, 7])) hW ha0 (by decide) rfl ?_
            refine en_segs [(142, .iconst 1, []), (143, .dup2, [])] (by decide +kernel) (y := (144, [some (.ref a0), some (.int p1), some (.int (10 + (3 * v6))), some (.int (cI r10.2 8 a0))], [.int 1, .ref (aP d 12 7 a0), .int 1, .ref (aP d 12 7 a0)], h)) rfl ?_
            obtain ⟨v22, hv22, hF⟩ := ob_some hF
            refine en_iald (by decide +kernel : u_at kl_202 144 = some (.iaload, [])) hW ha0 rfl (by decide) hv22 ?_
            refine en_segs [(145, .iconst 1, []), (146, .iadd, [])] (by decide +kernel) (y := (147, [some (.ref a0), some (.int p1), some (.int (10 + (3 * v6))), some (.int (cI r10.2 8 a0))], [.int (v22 + 1), .int 1, .ref (aP d 12 7 a0)], h)) rfl ?_
            obtain ⟨c12_23, hc12_23, hF⟩ := ob_some hF
            refine en_iast (by decide +kernel : u_at kl_202 147 = some (.iastore, [])) hW ha0 rfl (by decide) hc12_23 (fun h hW => ?_)
            have hW : HW (mkw c0 c1 c2 c3 c4 c5 c6 c7 c8 c9 c10 c11 c12_23 c13) d h := hW
            refine en_segs [(148, .iconst 1, [])] (by decide +kernel) (y := (149, [some (.ref a0), some (.int p1), some (.int (10 + (3 * v6))), some (.int (cI r10.2 8 a0))], [.int 1], h)) rfl ?_
            obtain rfl := Option.some.inj hF
            exact en_ret (by decide +kernel : u_at kl_202 149 = some (.ireturn, [1])) rfl (hQ _ hW)
          · replace hF := i_neg b20 hF
            refine en_fg (fg_k (fg_d (fg_d (fg_k fg_0)))) ?_
            exact (g_202 (D := D) hD ha0 _ _ _ _ _ hF) _ rfl rfl rfl rfl  _ hW _ hQ
def F_203 (c12 : Cl) (a0 : Nat) (p1 : Int32) : Option (Int32 × Cl) :=
  ald (cA c12 7 a0) 94 2 >>= fun v1 =>
  if v1 = 6 then
  F_176 c12 a0 4 p1 >>= fun r3 =>
  zb r3.1 >>= fun z4 => some (z4, r3.2)
  else
  F_181 c12 a0 >>= fun r5 =>
  ald (cA r5 7 a0) 94 2 >>= fun v6 =>
  ald (cA r5 7 a0) 94 0 >>= fun v7 =>
  F_199 r5 a0 (40 + (6 * v6)) 0 (v7 - 1) >>= fun r8 =>
  if r8.1 = 0 then
  some (0, r8.2)
  else
  F_199 r8.2 a0 ((40 + (6 * v6)) + 1) 1 4 >>= fun r10 =>
  if r10.1 = 0 then
  some (0, r10.2)
  else
  ald (cA r10.2 7 a0) 94 (40 + (6 * v6)) >>= fun v12 =>
  ast r10.2 7 a0 94 ((40 + (6 * v6)) + 2) v12 >>= fun c12_13 =>
  ast c12_13 7 a0 94 ((40 + (6 * v6)) + 3) (-1) >>= fun c12_14 =>
  ast c12_14 7 a0 94 ((40 + (6 * v6)) + 4) 0 >>= fun c12_15 =>
  ast c12_15 7 a0 94 ((40 + (6 * v6)) + 5) (-1) >>= fun c12_16 =>
  ald (cA c12_16 7 a0) 94 2 >>= fun v17 =>
  ast c12_16 7 a0 94 2 (v17 + 1) >>= fun c12_18 =>
  some (1, c12_18)
set_option maxRecDepth 100000 in
set_option maxHeartbeats 4000000 in
/-- HeadCountsModel.isHeadHere -/
theorem e_203 {D : Nat} {c0 c1 c2 c3 c4 c5 c6 c7 c8 c9 c10 c11 c12 c13 : Cl} {d : Ad} {h : UH} {a0 : Nat} {p1 : Int32} {r : (Int32 × Cl)} (hD : 4 ≤ D) (hW : HW (mkw c0 c1 c2 c3 c4 c5 c6 c7 c8 c9 c10 c11 c12 c13) d h) (ha0 : aK d a0 = (0, 12, 0)) (hF : F_203 c12 a0 p1 = some r) : ∃ q, EX D 203 [.ref a0, .int p1] h q ∧ q.1 = some (.int r.1) ∧ HW (mkw c0 c1 c2 c3 c4 c5 c6 c7 c8 c9 c10 c11 r.2 c13) d q.2 := by
  obtain ⟨D, rfl⟩ : ∃ E, D = E + 1 := ⟨D - 1, by omega⟩
  unfold F_203 at hF
  refine ex_in (kl := kl_203) (nL := 3) rfl (by decide +kernel) (Nat.le_of_ble_eq_true rfl) ?_
  obtain ⟨QQ, hQQ⟩ : ∃ QQ : UR → Prop, QQ = (fun q : UR => q.1 = some (.int r.1) ∧ HW (mkw c0 c1 c2 c3 c4 c5 c6 c7 c8 c9 c10 c11 r.2 c13) d q.2) := ⟨_, rfl⟩
  rw [← hQQ]
  have hQ : ∀ h' : UH, HW (mkw c0 c1 c2 c3 c4 c5 c6 c7 c8 c9 c10 c11 r.2 c13) d h' → QQ (some (.int r.1), h') := fun h' p => by rw [hQQ]; exact ⟨rfl, p⟩
  clear hQQ
  show Ends (EX D) (u_at kl_203) (0, [some (.ref a0), some (.int p1), none], [], h) QQ
  refine en_segs [(0, .aload_n 0, [])] (by decide +kernel) (y := (1, [some (.ref a0), some (.int p1), none], [.ref a0], h)) rfl ?_
  refine en_get (by decide +kernel : u_at kl_203 1 = some (.getfield 26, [12, 7])) hW ha0 (by decide) rfl ?_
  refine en_segs [(4, .iconst 2, [])] (by decide +kernel) (y := (5, [some (.ref a0), some (.int p1), none], [.int 2, .ref (aP d 12 7 a0)], h)) rfl ?_
  obtain ⟨v1, hv1, hF⟩ := ob_some hF
  refine en_iald (by decide +kernel : u_at kl_203 5 = some (.iaload, [])) hW ha0 rfl (by decide) hv1 ?_
  refine en_segs [(6, .bipush 6, [])] (by decide +kernel) (y := (8, [some (.ref a0), some (.int p1), none], [.int 6, .int v1], h)) rfl ?_
  refine en_ic_ne (by decide +kernel : u_at kl_203 8 = some (.if_icmp .ne 10, [18])) (fun b2 => ?_) (fun b2 => ?_)
  · replace hF := i_pos b2 hF
    refine en_segs [(11, .aload_n 0, []), (12, .iconst 4, []), (13, .iload_n 1, [])] (by decide +kernel) (y := (14, [some (.ref a0), some (.int p1), none], [.int p1, .int 4, .ref a0], h)) rfl ?_
    obtain ⟨r3, hr3, hF⟩ := ob_some hF
    refine en_vi (r := []) (by decide +kernel : u_at kl_203 14 = some (.invokevirtual 154, [176, 2, 12])) hW ha0 rfl rfl (Nat.le_of_ble_eq_true rfl) (e_176 (D := D) (by omega) hW ha0 hr3) (fun h hW => ?_)
    have hW : HW (mkw c0 c1 c2 c3 c4 c5 c6 c7 c8 c9 c10 c11 r3.2 c13) d h := hW
    obtain ⟨z4, hz4, hF⟩ := ob_some hF
    obtain rfl := Option.some.inj hF
    exact en_retZ (by decide +kernel : u_at kl_203 17 = some (.ireturn, [1])) hz4 (hQ _ hW)
  · replace hF := i_neg b2 hF
    refine en_segs [(18, .aload_n 0, [])] (by decide +kernel) (y := (19, [some (.ref a0), some (.int p1), none], [.ref a0], h)) rfl ?_
    obtain ⟨r5, hr5, hF⟩ := ob_some hF
    refine en_vv (r := []) (by decide +kernel : u_at kl_203 19 = some (.invokevirtual 148, [181, 0, 12])) hW ha0 rfl rfl (Nat.le_of_ble_eq_true rfl) (e_181 (D := D) (by omega) hW ha0 hr5) (fun h hW => ?_)
    have hW : HW (mkw c0 c1 c2 c3 c4 c5 c6 c7 c8 c9 c10 c11 r5 c13) d h := hW
    refine en_segs [(22, .bipush 40, []), (24, .bipush 6, []), (26, .aload_n 0, [])] (by decide +kernel) (y := (27, [some (.ref a0), some (.int p1), none], [.ref a0, .int 6, .int 40], h)) rfl ?_
    refine en_get (by decide +kernel : u_at kl_203 27 = some (.getfield 26, [12, 7])) hW ha0 (by decide) rfl ?_
    refine en_segs [(30, .iconst 2, [])] (by decide +kernel) (y := (31, [some (.ref a0), some (.int p1), none], [.int 2, .ref (aP d 12 7 a0), .int 6, .int 40], h)) rfl ?_
    obtain ⟨v6, hv6, hF⟩ := ob_some hF
    refine en_iald (by decide +kernel : u_at kl_203 31 = some (.iaload, [])) hW ha0 rfl (by decide) hv6 ?_
    refine en_segs [(32, .imul, []), (33, .iadd, []), (34, .istore_n 2, []), (35, .aload_n 0, []), (36, .iload_n 2, []), (37, .iconst 0, []), (38, .aload_n 0, [])] (by decide +kernel) (y := (39, [some (.ref a0), some (.int p1), some (.int (40 + (6 * v6)))], [.ref a0, .int 0, .int (40 + (6 * v6)), .ref a0], h)) rfl ?_
    refine en_get (by decide +kernel : u_at kl_203 39 = some (.getfield 26, [12, 7])) hW ha0 (by decide) rfl ?_
    refine en_segs [(42, .iconst 0, [])] (by decide +kernel) (y := (43, [some (.ref a0), some (.int p1), some (.int (40 + (6 * v6)))], [.int 0, .ref (aP d 12 7 a0), .int 0, .int (40 + (6 * v6)), .ref a0], h)) rfl ?_
    obtain ⟨v7, hv7, hF⟩ := ob_some hF
    refine en_iald (by decide +kernel : u_at kl_203 43 = some (.iaload, [])) hW ha0 rfl (by decide) hv7 ?_
    refine en_segs [(44, .iconst 1, []), (45, .isub, [])] (by decide +kernel) (y := (46, [some (.ref a0), some (.int p1), some (.int (40 + (6 * v6)))], [.int (v7 - 1), .int 0, .int (40 + (6 * v6)), .ref a0], h)) rfl ?_
    obtain ⟨r8, hr8, hF⟩ := ob_some hF
    refine en_vi (r := []) (by decide +kernel : u_at kl_203 46 = some (.invokevirtual 261, [199, 3, 12])) hW ha0 rfl rfl (Nat.le_of_ble_eq_true rfl) (e_199 (D := D) (by omega) hW ha0 hr8) (fun h hW => ?_)
    have hW : HW (mkw c0 c1 c2 c3 c4 c5 c6 c7 c8 c9 c10 c11 r8.2 c13) d h := hW
    refine en_if_eq (by decide +kernel : u_at kl_203 49 = some (.ifCond .eq 15, [64])) (fun b9 => ?_) (fun b9 => ?_)
    · replace hF := i_pos b9 hF
      refine en_segs [(64, .iconst 0, [])] (by decide +kernel) (y := (65, [some (.ref a0), some (.int p1), some (.int (40 + (6 * v6)))], [.int 0], h)) rfl ?_
      obtain rfl := Option.some.inj hF
      exact en_ret (by decide +kernel : u_at kl_203 65 = some (.ireturn, [1])) rfl (hQ _ hW)
    · replace hF := i_neg b9 hF
      refine en_segs [(52, .aload_n 0, []), (53, .iload_n 2, []), (54, .iconst 1, []), (55, .iadd, []), (56, .iconst 1, []), (57, .iconst 4, [])] (by decide +kernel) (y := (58, [some (.ref a0), some (.int p1), some (.int (40 + (6 * v6)))], [.int 4, .int 1, .int ((40 + (6 * v6)) + 1), .ref a0], h)) rfl ?_
      obtain ⟨r10, hr10, hF⟩ := ob_some hF
      refine en_vi (r := []) (by decide +kernel : u_at kl_203 58 = some (.invokevirtual 261, [199, 3, 12])) hW ha0 rfl rfl (Nat.le_of_ble_eq_true rfl) (e_199 (D := D) (by omega) hW ha0 hr10) (fun h hW => ?_)
      have hW : HW (mkw c0 c1 c2 c3 c4 c5 c6 c7 c8 c9 c10 c11 r10.2 c13) d h := hW
      refine en_if_ne (by decide +kernel : u_at kl_203 61 = some (.ifCond .ne 5, [66])) (fun b11 => ?_) (fun b11 => ?_)
      · replace hF := i_pos b11 hF
        refine en_segs [(64, .iconst 0, [])] (by decide +kernel) (y := (65, [some (.ref a0), some (.int p1), some (.int (40 + (6 * v6)))], [.int 0], h)) rfl ?_
        obtain rfl := Option.some.inj hF
        exact en_ret (by decide +kernel : u_at kl_203 65 = some (.ireturn, [1])) rfl (hQ _ hW)
      · replace hF := i_neg b11 hF
        refine en_segs [(66, .aload_n 0, [])] (by decide +kernel) (y := (67, [some (.ref a0), some (.int p1), some (.int (40 + (6 * v6)))], [.ref a0], h)) rfl ?_
        refine en_get (by decide +kernel : u_at kl_203 67 = some (.getfield 26, [12, 7])) hW ha0 (by decide) rfl ?_
        refine en_segs [(70, .iload_n 2, []), (71, .iconst 2, []), (72, .iadd, []), (73, .aload_n 0, [])] (by decide +kernel) (y := (74, [some (.ref a0), some (.int p1), some (.int (40 + (6 * v6)))], [.ref a0, .int ((40 + (6 * v6)) + 2), .ref (aP d 12 7 a0)], h)) rfl ?_
        refine en_get (by decide +kernel : u_at kl_203 74 = some (.getfield 26, [12, 7])) hW ha0 (by decide) rfl ?_
        refine en_segs [(77, .iload_n 2, [])] (by decide +kernel) (y := (78, [some (.ref a0), some (.int p1), some (.int (40 + (6 * v6)))], [.int (40 + (6 * v6)), .ref (aP d 12 7 a0), .int ((40 + (6 * v6)) + 2), .ref (aP d 12 7 a0)], h)) rfl ?_
        obtain ⟨v12, hv12, hF⟩ := ob_some hF
        refine en_iald (by decide +kernel : u_at kl_203 78 = some (.iaload, [])) hW ha0 rfl (by decide) hv12 ?_
        obtain ⟨c12_13, hc12_13, hF⟩ := ob_some hF
        refine en_iast (by decide +kernel : u_at kl_203 79 = some (.iastore, [])) hW ha0 rfl (by decide) hc12_13 (fun h hW => ?_)
        have hW : HW (mkw c0 c1 c2 c3 c4 c5 c6 c7 c8 c9 c10 c11 c12_13 c13) d h := hW
        refine en_segs [(80, .aload_n 0, [])] (by decide +kernel) (y := (81, [some (.ref a0), some (.int p1), some (.int (40 + (6 * v6)))], [.ref a0], h)) rfl ?_
        refine en_get (by decide +kernel : u_at kl_203 81 = some (.getfield 26, [12, 7])) hW ha0 (by decide) rfl ?_
        refine en_segs [(84, .iload_n 2, []), (85, .iconst 3, []), (86, .iadd, []), (87, .iconst (-1), [])] (by decide +kernel) (y := (88, [some (.ref a0), some (.int p1), some (.int (40 + (6 * v6)))], [.int (-1), .int ((40 + (6 * v6)) + 3), .ref (aP d 12 7 a0)], h)) rfl ?_
        obtain ⟨c12_14, hc12_14, hF⟩ := ob_some hF
        refine en_iast (by decide +kernel : u_at kl_203 88 = some (.iastore, [])) hW ha0 rfl (by decide) hc12_14 (fun h hW => ?_)
        have hW : HW (mkw c0 c1 c2 c3 c4 c5 c6 c7 c8 c9 c10 c11 c12_14 c13) d h := hW
        refine en_segs [(89, .aload_n 0, [])] (by decide +kernel) (y := (90, [some (.ref a0), some (.int p1), some (.int (40 + (6 * v6)))], [.ref a0], h)) rfl ?_
        refine en_get (by decide +kernel : u_at kl_203 90 = some (.getfield 26, [12, 7])) hW ha0 (by decide) rfl ?_
        refine en_segs [(93, .iload_n 2, []), (94, .iconst 4, []), (95, .iadd, []), (96, .iconst 0, [])] (by decide +kernel) (y := (97, [some (.ref a0), some (.int p1), some (.int (40 + (6 * v6)))], [.int 0, .int ((40 + (6 * v6)) + 4), .ref (aP d 12 7 a0)], h)) rfl ?_
        obtain ⟨c12_15, hc12_15, hF⟩ := ob_some hF
        refine en_iast (by decide +kernel : u_at kl_203 97 = some (.iastore, [])) hW ha0 rfl (by decide) hc12_15 (fun h hW => ?_)
        have hW : HW (mkw c0 c1 c2 c3 c4 c5 c6 c7 c8 c9 c10 c11 c12_15 c13) d h := hW
        refine en_segs [(98, .aload_n 0, [])] (by decide +kernel) (y := (99, [some (.ref a0), some (.int p1), some (.int (40 + (6 * v6)))], [.ref a0], h)) rfl ?_
        refine en_get (by decide +kernel : u_at kl_203 99 = some (.getfield 26, [12, 7])) hW ha0 (by decide) rfl ?_
        refine en_segs [(102, .iload_n 2, []), (103, .iconst 5, []), (104, .iadd, []), (105, .iconst (-1), [])] (by decide +kernel) (y := (106, [some (.ref a0), some (.int p1), some (.int (40 + (6 * v6)))], [.int (-1), .int ((40 + (6 * v6)) + 5), .ref (aP d 12 7 a0)], h)) rfl ?_
        obtain ⟨c12_16, hc12_16, hF⟩ := ob_some hF
        refine en_iast (by decide +kernel : u_at kl_203 106 = some (.iastore, [])) hW ha0 rfl (by decide) hc12_16 (fun h hW => ?_)
        have hW : HW (mkw c0 c1 c2 c3 c4 c5 c6 c7 c8 c9 c10 c11 c12_16 c13) d h := hW
        refine en_segs [(107, .aload_n 0, [])] (by decide +kernel) (y := (108, [some (.ref a0), some (.int p1), some (.int (40 + (6 * v6)))], [.ref a0], h)) rfl ?_
        refine en_get (by decide +kernel : u_at kl_203 108 = some (.getfield 26, [12, 7])) hW ha0 (by decide) rfl ?_
        refine en_segs [(111, .iconst 2, []), (112, .dup2, [])] (by decide +kernel) (y := (113, [some (.ref a0), some (.int p1), some (.int (40 + (6 * v6)))], [.int 2, .ref (aP d 12 7 a0), .int 2, .ref (aP d 12 7 a0)], h)) rfl ?_
        obtain ⟨v17, hv17, hF⟩ := ob_some hF
        refine en_iald (by decide +kernel : u_at kl_203 113 = some (.iaload, [])) hW ha0 rfl (by decide) hv17 ?_
        refine en_segs [(114, .iconst 1, []), (115, .iadd, [])] (by decide +kernel) (y := (116, [some (.ref a0), some (.int p1), some (.int (40 + (6 * v6)))], [.int (v17 + 1), .int 2, .ref (aP d 12 7 a0)], h)) rfl ?_
        obtain ⟨c12_18, hc12_18, hF⟩ := ob_some hF
        refine en_iast (by decide +kernel : u_at kl_203 116 = some (.iastore, [])) hW ha0 rfl (by decide) hc12_18 (fun h hW => ?_)
        have hW : HW (mkw c0 c1 c2 c3 c4 c5 c6 c7 c8 c9 c10 c11 c12_18 c13) d h := hW
        refine en_segs [(117, .iconst 1, [])] (by decide +kernel) (y := (118, [some (.ref a0), some (.int p1), some (.int (40 + (6 * v6)))], [.int 1], h)) rfl ?_
        obtain rfl := Option.some.inj hF
        exact en_ret (by decide +kernel : u_at kl_203 118 = some (.ireturn, [1])) rfl (hQ _ hW)
def F_204 (c12 : Cl) (a0 : Nat) (p1 : Int32) (p2 : Int32) (p3 : Int32) : Option (Int32 × Cl) :=
  F_181 c12 a0 >>= fun r1 =>
  ald (cA r1 7 a0) 94 0 >>= fun v2 =>
  F_183 r1 a0 0 (v2 - 1) >>= fun r3 =>
  if r3.1 = 0 then
  some (0, r3.2)
  else
  F_199 r3.2 a0 (p1 + (cI r3.2 10 a0)) p2 p3 >>= fun r5 =>
  zb r5.1 >>= fun z6 => some (z6, r5.2)
set_option maxRecDepth 100000 in
set_option maxHeartbeats 4000000 in
/-- HeadCountsModel.isRoomCellHere -/
theorem e_204 {D : Nat} {c0 c1 c2 c3 c4 c5 c6 c7 c8 c9 c10 c11 c12 c13 : Cl} {d : Ad} {h : UH} {a0 : Nat} {p1 : Int32} {p2 : Int32} {p3 : Int32} {r : (Int32 × Cl)} (hD : 4 ≤ D) (hW : HW (mkw c0 c1 c2 c3 c4 c5 c6 c7 c8 c9 c10 c11 c12 c13) d h) (ha0 : aK d a0 = (0, 12, 0)) (hF : F_204 c12 a0 p1 p2 p3 = some r) : ∃ q, EX D 204 [.ref a0, .int p1, .int p2, .int p3] h q ∧ q.1 = some (.int r.1) ∧ HW (mkw c0 c1 c2 c3 c4 c5 c6 c7 c8 c9 c10 c11 r.2 c13) d q.2 := by
  obtain ⟨D, rfl⟩ : ∃ E, D = E + 1 := ⟨D - 1, by omega⟩
  unfold F_204 at hF
  refine ex_in (kl := kl_204) (nL := 4) rfl (by decide +kernel) (Nat.le_of_ble_eq_true rfl) ?_
  obtain ⟨QQ, hQQ⟩ : ∃ QQ : UR → Prop, QQ = (fun q : UR => q.1 = some (.int r.1) ∧ HW (mkw c0 c1 c2 c3 c4 c5 c6 c7 c8 c9 c10 c11 r.2 c13) d q.2) := ⟨_, rfl⟩
  rw [← hQQ]
  have hQ : ∀ h' : UH, HW (mkw c0 c1 c2 c3 c4 c5 c6 c7 c8 c9 c10 c11 r.2 c13) d h' → QQ (some (.int r.1), h') := fun h' p => by rw [hQQ]; exact ⟨rfl, p⟩
  clear hQQ
  show Ends (EX D) (u_at kl_204) (0, [some (.ref a0), some (.int p1), some (.int p2), some (.int p3)], [], h) QQ
  refine en_segs [(0, .aload_n 0, [])] (by decide +kernel) (y := (1, [some (.ref a0), some (.int p1), some (.int p2), some (.int p3)], [.ref a0], h)) rfl ?_
  obtain ⟨r1, hr1, hF⟩ := ob_some hF
  refine en_vv (r := []) (by decide +kernel : u_at kl_204 1 = some (.invokevirtual 148, [181, 0, 12])) hW ha0 rfl rfl (Nat.le_of_ble_eq_true rfl) (e_181 (D := D) (by omega) hW ha0 hr1) (fun h hW => ?_)
  have hW : HW (mkw c0 c1 c2 c3 c4 c5 c6 c7 c8 c9 c10 c11 r1 c13) d h := hW
  refine en_segs [(4, .aload_n 0, []), (5, .iconst 0, []), (6, .aload_n 0, [])] (by decide +kernel) (y := (7, [some (.ref a0), some (.int p1), some (.int p2), some (.int p3)], [.ref a0, .int 0, .ref a0], h)) rfl ?_
  refine en_get (by decide +kernel : u_at kl_204 7 = some (.getfield 26, [12, 7])) hW ha0 (by decide) rfl ?_
  refine en_segs [(10, .iconst 0, [])] (by decide +kernel) (y := (11, [some (.ref a0), some (.int p1), some (.int p2), some (.int p3)], [.int 0, .ref (aP d 12 7 a0), .int 0, .ref a0], h)) rfl ?_
  obtain ⟨v2, hv2, hF⟩ := ob_some hF
  refine en_iald (by decide +kernel : u_at kl_204 11 = some (.iaload, [])) hW ha0 rfl (by decide) hv2 ?_
  refine en_segs [(12, .iconst 1, []), (13, .isub, [])] (by decide +kernel) (y := (14, [some (.ref a0), some (.int p1), some (.int p2), some (.int p3)], [.int (v2 - 1), .int 0, .ref a0], h)) rfl ?_
  obtain ⟨r3, hr3, hF⟩ := ob_some hF
  refine en_vi (r := []) (by decide +kernel : u_at kl_204 14 = some (.invokevirtual 210, [183, 2, 12])) hW ha0 rfl rfl (Nat.le_of_ble_eq_true rfl) (e_183 (D := D) (by omega) hW ha0 hr3) (fun h hW => ?_)
  have hW : HW (mkw c0 c1 c2 c3 c4 c5 c6 c7 c8 c9 c10 c11 r3.2 c13) d h := hW
  refine en_if_ne (by decide +kernel : u_at kl_204 17 = some (.ifCond .ne 5, [22])) (fun b4 => ?_) (fun b4 => ?_)
  · replace hF := i_pos b4 hF
    refine en_segs [(20, .iconst 0, [])] (by decide +kernel) (y := (21, [some (.ref a0), some (.int p1), some (.int p2), some (.int p3)], [.int 0], h)) rfl ?_
    obtain rfl := Option.some.inj hF
    exact en_ret (by decide +kernel : u_at kl_204 21 = some (.ireturn, [1])) rfl (hQ _ hW)
  · replace hF := i_neg b4 hF
    refine en_segs [(22, .aload_n 0, []), (23, .iload_n 1, []), (24, .aload_n 0, [])] (by decide +kernel) (y := (25, [some (.ref a0), some (.int p1), some (.int p2), some (.int p3)], [.ref a0, .int p1, .ref a0], h)) rfl ?_
    refine en_get (by decide +kernel : u_at kl_204 25 = some (.getfield 158, [12, 10])) hW ha0 (by decide) rfl ?_
    refine en_segs [(28, .iadd, []), (29, .iload_n 2, []), (30, .iload_n 3, [])] (by decide +kernel) (y := (31, [some (.ref a0), some (.int p1), some (.int p2), some (.int p3)], [.int p3, .int p2, .int (p1 + (cI r3.2 10 a0)), .ref a0], h)) rfl ?_
    obtain ⟨r5, hr5, hF⟩ := ob_some hF
    refine en_vi (r := []) (by decide +kernel : u_at kl_204 31 = some (.invokevirtual 261, [199, 3, 12])) hW ha0 rfl rfl (Nat.le_of_ble_eq_true rfl) (e_199 (D := D) (by omega) hW ha0 hr5) (fun h hW => ?_)
    have hW : HW (mkw c0 c1 c2 c3 c4 c5 c6 c7 c8 c9 c10 c11 r5.2 c13) d h := hW
    obtain ⟨z6, hz6, hF⟩ := ob_some hF
    obtain rfl := Option.some.inj hF
    exact en_retZ (by decide +kernel : u_at kl_204 34 = some (.ireturn, [1])) hz6 (hQ _ hW)
def F_205 (c12 : Cl) (a0 : Nat) (p1 : Int32) : Option (Int32 × Cl) :=
  ald (cA c12 7 a0) 94 3 >>= fun v1 =>
  if v1 = 6 then
  F_176 c12 a0 4 p1 >>= fun r3 =>
  zb r3.1 >>= fun z4 => some (z4, r3.2)
  else
  F_181 c12 a0 >>= fun r5 =>
  ald (cA r5 7 a0) 94 3 >>= fun v6 =>
  ald (cA r5 7 a0) 94 0 >>= fun v7 =>
  F_199 r5 a0 (88 + v6) 1 ((1 <<< (v7 &&& 31)) - 1) >>= fun r8 =>
  if r8.1 = 0 then
  some (0, r8.2)
  else
  ald (cA r8.2 7 a0) 94 3 >>= fun v10 =>
  ast r8.2 7 a0 94 3 (v10 + 1) >>= fun c12_11 =>
  some (1, c12_11)
set_option maxRecDepth 100000 in
set_option maxHeartbeats 4000000 in
/-- HeadCountsModel.isSenseHere -/
theorem e_205 {D : Nat} {c0 c1 c2 c3 c4 c5 c6 c7 c8 c9 c10 c11 c12 c13 : Cl} {d : Ad} {h : UH} {a0 : Nat} {p1 : Int32} {r : (Int32 × Cl)} (hD : 4 ≤ D) (hW : HW (mkw c0 c1 c2 c3 c4 c5 c6 c7 c8 c9 c10 c11 c12 c13) d h) (ha0 : aK d a0 = (0, 12, 0)) (hF : F_205 c12 a0 p1 = some r) : ∃ q, EX D 205 [.ref a0, .int p1] h q ∧ q.1 = some (.int r.1) ∧ HW (mkw c0 c1 c2 c3 c4 c5 c6 c7 c8 c9 c10 c11 r.2 c13) d q.2 := by
  obtain ⟨D, rfl⟩ : ∃ E, D = E + 1 := ⟨D - 1, by omega⟩
  unfold F_205 at hF
  refine ex_in (kl := kl_205) (nL := 2) rfl (by decide +kernel) (Nat.le_of_ble_eq_true rfl) ?_
  obtain ⟨QQ, hQQ⟩ : ∃ QQ : UR → Prop, QQ = (fun q : UR => q.1 = some (.int r.1) ∧ HW (mkw c0 c1 c2 c3 c4 c5 c6 c7 c8 c9 c10 c11 r.2 c13) d q.2) := ⟨_, rfl⟩
  rw [← hQQ]
  have hQ : ∀ h' : UH, HW (mkw c0 c1 c2 c3 c4 c5 c6 c7 c8 c9 c10 c11 r.2 c13) d h' → QQ (some (.int r.1), h') := fun h' p => by rw [hQQ]; exact ⟨rfl, p⟩
  clear hQQ
  show Ends (EX D) (u_at kl_205) (0, [some (.ref a0), some (.int p1)], [], h) QQ
  refine en_segs [(0, .aload_n 0, [])] (by decide +kernel) (y := (1, [some (.ref a0), some (.int p1)], [.ref a0], h)) rfl ?_
  refine en_get (by decide +kernel : u_at kl_205 1 = some (.getfield 26, [12, 7])) hW ha0 (by decide) rfl ?_
  refine en_segs [(4, .iconst 3, [])] (by decide +kernel) (y := (5, [some (.ref a0), some (.int p1)], [.int 3, .ref (aP d 12 7 a0)], h)) rfl ?_
  obtain ⟨v1, hv1, hF⟩ := ob_some hF
  refine en_iald (by decide +kernel : u_at kl_205 5 = some (.iaload, [])) hW ha0 rfl (by decide) hv1 ?_
  refine en_segs [(6, .bipush 6, [])] (by decide +kernel) (y := (8, [some (.ref a0), some (.int p1)], [.int 6, .int v1], h)) rfl ?_
  refine en_ic_ne (by decide +kernel : u_at kl_205 8 = some (.if_icmp .ne 10, [18])) (fun b2 => ?_) (fun b2 => ?_)
  · replace hF := i_pos b2 hF
    refine en_segs [(11, .aload_n 0, []), (12, .iconst 4, []), (13, .iload_n 1, [])] (by decide +kernel) (y := (14, [some (.ref a0), some (.int p1)], [.int p1, .int 4, .ref a0], h)) rfl ?_
    obtain ⟨r3, hr3, hF⟩ := ob_some hF
    refine en_vi (r := []) (by decide +kernel : u_at kl_205 14 = some (.invokevirtual 154, [176, 2, 12])) hW ha0 rfl rfl (Nat.le_of_ble_eq_true rfl) (e_176 (D := D) (by omega) hW ha0 hr3) (fun h hW => ?_)
    have hW : HW (mkw c0 c1 c2 c3 c4 c5 c6 c7 c8 c9 c10 c11 r3.2 c13) d h := hW
    obtain ⟨z4, hz4, hF⟩ := ob_some hF
    obtain rfl := Option.some.inj hF
    exact en_retZ (by decide +kernel : u_at kl_205 17 = some (.ireturn, [1])) hz4 (hQ _ hW)
  · replace hF := i_neg b2 hF
    refine en_segs [(18, .aload_n 0, [])] (by decide +kernel) (y := (19, [some (.ref a0), some (.int p1)], [.ref a0], h)) rfl ?_
    obtain ⟨r5, hr5, hF⟩ := ob_some hF
    refine en_vv (r := []) (by decide +kernel : u_at kl_205 19 = some (.invokevirtual 148, [181, 0, 12])) hW ha0 rfl rfl (Nat.le_of_ble_eq_true rfl) (e_181 (D := D) (by omega) hW ha0 hr5) (fun h hW => ?_)
    have hW : HW (mkw c0 c1 c2 c3 c4 c5 c6 c7 c8 c9 c10 c11 r5 c13) d h := hW
    refine en_segs [(22, .aload_n 0, []), (23, .bipush 88, []), (25, .aload_n 0, [])] (by decide +kernel) (y := (26, [some (.ref a0), some (.int p1)], [.ref a0, .int 88, .ref a0], h)) rfl ?_
    refine en_get (by decide +kernel : u_at kl_205 26 = some (.getfield 26, [12, 7])) hW ha0 (by decide) rfl ?_
    refine en_segs [(29, .iconst 3, [])] (by decide +kernel) (y := (30, [some (.ref a0), some (.int p1)], [.int 3, .ref (aP d 12 7 a0), .int 88, .ref a0], h)) rfl ?_
    obtain ⟨v6, hv6, hF⟩ := ob_some hF
    refine en_iald (by decide +kernel : u_at kl_205 30 = some (.iaload, [])) hW ha0 rfl (by decide) hv6 ?_
    refine en_segs [(31, .iadd, []), (32, .iconst 1, []), (33, .iconst 1, []), (34, .aload_n 0, [])] (by decide +kernel) (y := (35, [some (.ref a0), some (.int p1)], [.ref a0, .int 1, .int 1, .int (88 + v6), .ref a0], h)) rfl ?_
    refine en_get (by decide +kernel : u_at kl_205 35 = some (.getfield 26, [12, 7])) hW ha0 (by decide) rfl ?_
    refine en_segs [(38, .iconst 0, [])] (by decide +kernel) (y := (39, [some (.ref a0), some (.int p1)], [.int 0, .ref (aP d 12 7 a0), .int 1, .int 1, .int (88 + v6), .ref a0], h)) rfl ?_
    obtain ⟨v7, hv7, hF⟩ := ob_some hF
    refine en_iald (by decide +kernel : u_at kl_205 39 = some (.iaload, [])) hW ha0 rfl (by decide) hv7 ?_
    refine en_segs [(40, .ishl, []), (41, .iconst 1, []), (42, .isub, [])] (by decide +kernel) (y := (43, [some (.ref a0), some (.int p1)], [.int ((1 <<< (v7 &&& 31)) - 1), .int 1, .int (88 + v6), .ref a0], h)) rfl ?_
    obtain ⟨r8, hr8, hF⟩ := ob_some hF
    refine en_vi (r := []) (by decide +kernel : u_at kl_205 43 = some (.invokevirtual 261, [199, 3, 12])) hW ha0 rfl rfl (Nat.le_of_ble_eq_true rfl) (e_199 (D := D) (by omega) hW ha0 hr8) (fun h hW => ?_)
    have hW : HW (mkw c0 c1 c2 c3 c4 c5 c6 c7 c8 c9 c10 c11 r8.2 c13) d h := hW
    refine en_if_ne (by decide +kernel : u_at kl_205 46 = some (.ifCond .ne 5, [51])) (fun b9 => ?_) (fun b9 => ?_)
    · replace hF := i_pos b9 hF
      refine en_segs [(49, .iconst 0, [])] (by decide +kernel) (y := (50, [some (.ref a0), some (.int p1)], [.int 0], h)) rfl ?_
      obtain rfl := Option.some.inj hF
      exact en_ret (by decide +kernel : u_at kl_205 50 = some (.ireturn, [1])) rfl (hQ _ hW)
    · replace hF := i_neg b9 hF
      refine en_segs [(51, .aload_n 0, [])] (by decide +kernel) (y := (52, [some (.ref a0), some (.int p1)], [.ref a0], h)) rfl ?_
      refine en_get (by decide +kernel : u_at kl_205 52 = some (.getfield 26, [12, 7])) hW ha0 (by decide) rfl ?_
      refine en_segs [(55, .iconst 3, []), (56, .dup2, [])] (by decide +kernel) (y := (57, [some (.ref a0), some (.int p1)], [.int 3, .ref (aP d 12 7 a0), .int 3, .ref (aP d 12 7 a0)], h)) rfl ?_
      obtain ⟨v10, hv10, hF⟩ := ob_some hF
      refine en_iald (by decide +kernel : u_at kl_205 57 = some (.iaload, [])) hW ha0 rfl (by decide) hv10 ?_
      refine en_segs [(58, .iconst 1, []), (59, .iadd, [])] (by decide +kernel) (y := (60, [some (.ref a0), some (.int p1)], [.int (v10 + 1), .int 3, .ref (aP d 12 7 a0)], h)) rfl ?_
      obtain ⟨c12_11, hc12_11, hF⟩ := ob_some hF
      refine en_iast (by decide +kernel : u_at kl_205 60 = some (.iastore, [])) hW ha0 rfl (by decide) hc12_11 (fun h hW => ?_)
      have hW : HW (mkw c0 c1 c2 c3 c4 c5 c6 c7 c8 c9 c10 c11 c12_11 c13) d h := hW
      refine en_segs [(61, .iconst 1, [])] (by decide +kernel) (y := (62, [some (.ref a0), some (.int p1)], [.int 1], h)) rfl ?_
      obtain rfl := Option.some.inj hF
      exact en_ret (by decide +kernel : u_at kl_205 62 = some (.ireturn, [1])) rfl (hQ _ hW)
def F_206 (c12 : Cl) (a0 : Nat) (p1 : Int32) : Option (Int32 × Cl) :=
  ald (cA c12 7 a0) 94 7 >>= fun v1 =>
  if v1 < 0 then
  F_181 c12 a0 >>= fun r3 =>
  F_199 r3 a0 7 0 9 >>= fun r4 =>
  zb r4.1 >>= fun z5 => some (z5, r4.2)
  else
  F_176 c12 a0 4 p1 >>= fun r6 =>
  zb r6.1 >>= fun z7 => some (z7, r6.2)
set_option maxRecDepth 100000 in
set_option maxHeartbeats 4000000 in
/-- HeadCountsModel.lingersHere -/
theorem e_206 {D : Nat} {c0 c1 c2 c3 c4 c5 c6 c7 c8 c9 c10 c11 c12 c13 : Cl} {d : Ad} {h : UH} {a0 : Nat} {p1 : Int32} {r : (Int32 × Cl)} (hD : 4 ≤ D) (hW : HW (mkw c0 c1 c2 c3 c4 c5 c6 c7 c8 c9 c10 c11 c12 c13) d h) (ha0 : aK d a0 = (0, 12, 0)) (hF : F_206 c12 a0 p1 = some r) : ∃ q, EX D 206 [.ref a0, .int p1] h q ∧ q.1 = some (.int r.1) ∧ HW (mkw c0 c1 c2 c3 c4 c5 c6 c7 c8 c9 c10 c11 r.2 c13) d q.2 := by
  obtain ⟨D, rfl⟩ : ∃ E, D = E + 1 := ⟨D - 1, by omega⟩
  unfold F_206 at hF
  refine ex_in (kl := kl_206) (nL := 2) rfl (by decide +kernel) (Nat.le_of_ble_eq_true rfl) ?_
  obtain ⟨QQ, hQQ⟩ : ∃ QQ : UR → Prop, QQ = (fun q : UR => q.1 = some (.int r.1) ∧ HW (mkw c0 c1 c2 c3 c4 c5 c6 c7 c8 c9 c10 c11 r.2 c13) d q.2) := ⟨_, rfl⟩
  rw [← hQQ]
  have hQ : ∀ h' : UH, HW (mkw c0 c1 c2 c3 c4 c5 c6 c7 c8 c9 c10 c11 r.2 c13) d h' → QQ (some (.int r.1), h') := fun h' p => by rw [hQQ]; exact ⟨rfl, p⟩
  clear hQQ
  show Ends (EX D) (u_at kl_206) (0, [some (.ref a0), some (.int p1)], [], h) QQ
  refine en_segs [(0, .aload_n 0, [])] (by decide +kernel) (y := (1, [some (.ref a0), some (.int p1)], [.ref a0], h)) rfl ?_
  refine en_get (by decide +kernel : u_at kl_206 1 = some (.getfield 26, [12, 7])) hW ha0 (by decide) rfl ?_
  refine en_segs [(4, .bipush 7, [])] (by decide +kernel) (y := (6, [some (.ref a0), some (.int p1)], [.int 7, .ref (aP d 12 7 a0)], h)) rfl ?_
  obtain ⟨v1, hv1, hF⟩ := ob_some hF
  refine en_iald (by decide +kernel : u_at kl_206 6 = some (.iaload, [])) hW ha0 rfl (by decide) hv1 ?_
  refine en_if_lt (by decide +kernel : u_at kl_206 7 = some (.ifCond .lt 10, [17])) (fun b2 => ?_) (fun b2 => ?_)
  · replace hF := i_pos b2 hF
    refine en_segs [(17, .aload_n 0, [])] (by decide +kernel) (y := (18, [some (.ref a0), some (.int p1)], [.ref a0], h)) rfl ?_
    obtain ⟨r3, hr3, hF⟩ := ob_some hF
    refine en_vv (r := []) (by decide +kernel : u_at kl_206 18 = some (.invokevirtual 148, [181, 0, 12])) hW ha0 rfl rfl (Nat.le_of_ble_eq_true rfl) (e_181 (D := D) (by omega) hW ha0 hr3) (fun h hW => ?_)
    have hW : HW (mkw c0 c1 c2 c3 c4 c5 c6 c7 c8 c9 c10 c11 r3 c13) d h := hW
    refine en_segs [(21, .aload_n 0, []), (22, .bipush 7, []), (24, .iconst 0, []), (25, .bipush 9, [])] (by decide +kernel) (y := (27, [some (.ref a0), some (.int p1)], [.int 9, .int 0, .int 7, .ref a0], h)) rfl ?_
    obtain ⟨r4, hr4, hF⟩ := ob_some hF
    refine en_vi (r := []) (by decide +kernel : u_at kl_206 27 = some (.invokevirtual 261, [199, 3, 12])) hW ha0 rfl rfl (Nat.le_of_ble_eq_true rfl) (e_199 (D := D) (by omega) hW ha0 hr4) (fun h hW => ?_)
    have hW : HW (mkw c0 c1 c2 c3 c4 c5 c6 c7 c8 c9 c10 c11 r4.2 c13) d h := hW
    obtain ⟨z5, hz5, hF⟩ := ob_some hF
    obtain rfl := Option.some.inj hF
    exact en_retZ (by decide +kernel : u_at kl_206 30 = some (.ireturn, [1])) hz5 (hQ _ hW)
  · replace hF := i_neg b2 hF
    refine en_segs [(10, .aload_n 0, []), (11, .iconst 4, []), (12, .iload_n 1, [])] (by decide +kernel) (y := (13, [some (.ref a0), some (.int p1)], [.int p1, .int 4, .ref a0], h)) rfl ?_
    obtain ⟨r6, hr6, hF⟩ := ob_some hF
    refine en_vi (r := []) (by decide +kernel : u_at kl_206 13 = some (.invokevirtual 154, [176, 2, 12])) hW ha0 rfl rfl (Nat.le_of_ble_eq_true rfl) (e_176 (D := D) (by omega) hW ha0 hr6) (fun h hW => ?_)
    have hW : HW (mkw c0 c1 c2 c3 c4 c5 c6 c7 c8 c9 c10 c11 r6.2 c13) d h := hW
    obtain ⟨z7, hz7, hF⟩ := ob_some hF
    obtain rfl := Option.some.inj hF
    exact en_retZ (by decide +kernel : u_at kl_206 16 = some (.ireturn, [1])) hz7 (hQ _ hW)
def F_207 (c12 : Cl) (a0 : Nat) (p1 : Int32) : Option (Int32 × Cl) :=
  F_180 c12 a0 491495845235 >>= fun r1 =>
  if r1.1 = 0 then
  ald (cA r1.2 7 a0) 94 0 >>= fun v3 =>
  if v3 = 0 then
  F_176 r1.2 a0 4 p1 >>= fun r5 =>
  zb r5.1 >>= fun z6 => some (z6, r5.2)
  else
  F_180 r1.2 a0 1685024626 >>= fun r7 =>
  if r7.1 = 0 then
  F_180 r7.2 a0 1751474532 >>= fun r9 =>
  if r9.1 = 0 then
  F_180 r9.2 a0 431198331257 >>= fun r11 =>
  if r11.1 = 0 then
  F_180 r11.2 a0 1836020596 >>= fun r13 =>
  if r13.1 = 0 then
  F_180 r13.2 a0 495622976357 >>= fun r15 =>
  ((if r15.1 = 0 then
  F_206 r15.2 a0 p1 >>= fun r20 =>
  some (r20.1, r20.2)
  else
  F_205 r15.2 a0 p1 >>= fun r21 =>
  some (r21.1, r21.2)) : Option (Int32 × Cl)) >>= fun (t16 : Int32 × Cl) =>
  zb t16.1 >>= fun z18 => some (z18, t16.2)
  else
  F_204 r13.2 a0 82 1 99 >>= fun r22 =>
  zb r22.1 >>= fun z23 => some (z23, r22.2)
  else
  F_204 r11.2 a0 76 0 5 >>= fun r24 =>
  zb r24.1 >>= fun z25 => some (z25, r24.2)
  else
  F_203 r9.2 a0 p1 >>= fun r26 =>
  zb r26.1 >>= fun z27 => some (z27, r26.2)
  else
  F_202 r7.2 a0 p1 >>= fun r28 =>
  zb r28.1 >>= fun z29 => some (z29, r28.2)
  else
  F_200 r1.2 a0 p1 >>= fun r30 =>
  zb r30.1 >>= fun z31 => some (z31, r30.2)
set_option maxRecDepth 100000 in
set_option maxHeartbeats 4000000 in
/-- HeadCountsModel.houseLineHere -/
theorem e_207 {D : Nat} {c0 c1 c2 c3 c4 c5 c6 c7 c8 c9 c10 c11 c12 c13 : Cl} {d : Ad} {h : UH} {a0 : Nat} {p1 : Int32} {r : (Int32 × Cl)} (hD : 5 ≤ D) (hW : HW (mkw c0 c1 c2 c3 c4 c5 c6 c7 c8 c9 c10 c11 c12 c13) d h) (ha0 : aK d a0 = (0, 12, 0)) (hF : F_207 c12 a0 p1 = some r) : ∃ q, EX D 207 [.ref a0, .int p1] h q ∧ q.1 = some (.int r.1) ∧ HW (mkw c0 c1 c2 c3 c4 c5 c6 c7 c8 c9 c10 c11 r.2 c13) d q.2 := by
  obtain ⟨D, rfl⟩ : ∃ E, D = E + 1 := ⟨D - 1, by omega⟩
  unfold F_207 at hF
  refine ex_in (kl := kl_207) (nL := 2) rfl (by decide +kernel) (Nat.le_of_ble_eq_true rfl) ?_
  obtain ⟨QQ, hQQ⟩ : ∃ QQ : UR → Prop, QQ = (fun q : UR => q.1 = some (.int r.1) ∧ HW (mkw c0 c1 c2 c3 c4 c5 c6 c7 c8 c9 c10 c11 r.2 c13) d q.2) := ⟨_, rfl⟩
  rw [← hQQ]
  have hQ : ∀ h' : UH, HW (mkw c0 c1 c2 c3 c4 c5 c6 c7 c8 c9 c10 c11 r.2 c13) d h' → QQ (some (.int r.1), h') := fun h' p => by rw [hQQ]; exact ⟨rfl, p⟩
  clear hQQ
  show Ends (EX D) (u_at kl_207) (0, [some (.ref a0), some (.int p1)], [], h) QQ
  refine en_segs [(0, .aload_n 0, []), (1, .ldc2_w 269, [491495845235])] (by decide +kernel) (y := (4, [some (.ref a0), some (.int p1)], [.long 491495845235, .ref a0], h)) rfl ?_
  obtain ⟨r1, hr1, hF⟩ := ob_some hF
  refine en_vi (r := []) (by decide +kernel : u_at kl_207 4 = some (.invokevirtual 144, [180, 1, 12])) hW ha0 rfl rfl (Nat.le_of_ble_eq_true rfl) (e_180 (D := D) (by omega) hW ha0 hr1) (fun h hW => ?_)
  have hW : HW (mkw c0 c1 c2 c3 c4 c5 c6 c7 c8 c9 c10 c11 r1.2 c13) d h := hW
  refine en_if_eq (by decide +kernel : u_at kl_207 7 = some (.ifCond .eq 9, [16])) (fun b2 => ?_) (fun b2 => ?_)
  · replace hF := i_pos b2 hF
    refine en_segs [(16, .aload_n 0, [])] (by decide +kernel) (y := (17, [some (.ref a0), some (.int p1)], [.ref a0], h)) rfl ?_
    refine en_get (by decide +kernel : u_at kl_207 17 = some (.getfield 26, [12, 7])) hW ha0 (by decide) rfl ?_
    refine en_segs [(20, .iconst 0, [])] (by decide +kernel) (y := (21, [some (.ref a0), some (.int p1)], [.int 0, .ref (aP d 12 7 a0)], h)) rfl ?_
    obtain ⟨v3, hv3, hF⟩ := ob_some hF
    refine en_iald (by decide +kernel : u_at kl_207 21 = some (.iaload, [])) hW ha0 rfl (by decide) hv3 ?_
    refine en_if_ne (by decide +kernel : u_at kl_207 22 = some (.ifCond .ne 10, [32])) (fun b4 => ?_) (fun b4 => ?_)
    · replace hF := i_pos b4 hF
      refine en_segs [(25, .aload_n 0, []), (26, .iconst 4, []), (27, .iload_n 1, [])] (by decide +kernel) (y := (28, [some (.ref a0), some (.int p1)], [.int p1, .int 4, .ref a0], h)) rfl ?_
      obtain ⟨r5, hr5, hF⟩ := ob_some hF
      refine en_vi (r := []) (by decide +kernel : u_at kl_207 28 = some (.invokevirtual 154, [176, 2, 12])) hW ha0 rfl rfl (Nat.le_of_ble_eq_true rfl) (e_176 (D := D) (by omega) hW ha0 hr5) (fun h hW => ?_)
      have hW : HW (mkw c0 c1 c2 c3 c4 c5 c6 c7 c8 c9 c10 c11 r5.2 c13) d h := hW
      obtain ⟨z6, hz6, hF⟩ := ob_some hF
      obtain rfl := Option.some.inj hF
      exact en_retZ (by decide +kernel : u_at kl_207 31 = some (.ireturn, [1])) hz6 (hQ _ hW)
    · replace hF := i_neg b4 hF
      refine en_segs [(32, .aload_n 0, []), (33, .ldc2_w 274, [1685024626])] (by decide +kernel) (y := (36, [some (.ref a0), some (.int p1)], [.long 1685024626, .ref a0], h)) rfl ?_
      obtain ⟨r7, hr7, hF⟩ := ob_some hF
      refine en_vi (r := []) (by decide +kernel : u_at kl_207 36 = some (.invokevirtual 144, [180, 1, 12])) hW ha0 rfl rfl (Nat.le_of_ble_eq_true rfl) (e_180 (D := D) (by omega) hW ha0 hr7) (fun h hW => ?_)
      have hW : HW (mkw c0 c1 c2 c3 c4 c5 c6 c7 c8 c9 c10 c11 r7.2 c13) d h := hW
      refine en_if_eq (by decide +kernel : u_at kl_207 39 = some (.ifCond .eq 9, [48])) (fun b8 => ?_) (fun b8 => ?_)
      · replace hF := i_pos b8 hF
        refine en_segs [(48, .aload_n 0, []), (49, .ldc2_w 165, [1751474532])] (by decide +kernel) (y := (52, [some (.ref a0), some (.int p1)], [.long 1751474532, .ref a0], h)) rfl ?_
        obtain ⟨r9, hr9, hF⟩ := ob_some hF
        refine en_vi (r := []) (by decide +kernel : u_at kl_207 52 = some (.invokevirtual 144, [180, 1, 12])) hW ha0 rfl rfl (Nat.le_of_ble_eq_true rfl) (e_180 (D := D) (by omega) hW ha0 hr9) (fun h hW => ?_)
        have hW : HW (mkw c0 c1 c2 c3 c4 c5 c6 c7 c8 c9 c10 c11 r9.2 c13) d h := hW
        refine en_if_eq (by decide +kernel : u_at kl_207 55 = some (.ifCond .eq 9, [64])) (fun b10 => ?_) (fun b10 => ?_)
        · replace hF := i_pos b10 hF
          refine en_segs [(64, .aload_n 0, []), (65, .ldc2_w 282, [431198331257])] (by decide +kernel) (y := (68, [some (.ref a0), some (.int p1)], [.long 431198331257, .ref a0], h)) rfl ?_
          obtain ⟨r11, hr11, hF⟩ := ob_some hF
          refine en_vi (r := []) (by decide +kernel : u_at kl_207 68 = some (.invokevirtual 144, [180, 1, 12])) hW ha0 rfl rfl (Nat.le_of_ble_eq_true rfl) (e_180 (D := D) (by omega) hW ha0 hr11) (fun h hW => ?_)
          have hW : HW (mkw c0 c1 c2 c3 c4 c5 c6 c7 c8 c9 c10 c11 r11.2 c13) d h := hW
          refine en_if_eq (by decide +kernel : u_at kl_207 71 = some (.ifCond .eq 12, [83])) (fun b12 => ?_) (fun b12 => ?_)
          · replace hF := i_pos b12 hF
            refine en_segs [(83, .aload_n 0, []), (84, .ldc2_w 287, [1836020596])] (by decide +kernel) (y := (87, [some (.ref a0), some (.int p1)], [.long 1836020596, .ref a0], h)) rfl ?_
            obtain ⟨r13, hr13, hF⟩ := ob_some hF
            refine en_vi (r := []) (by decide +kernel : u_at kl_207 87 = some (.invokevirtual 144, [180, 1, 12])) hW ha0 rfl rfl (Nat.le_of_ble_eq_true rfl) (e_180 (D := D) (by omega) hW ha0 hr13) (fun h hW => ?_)
            have hW : HW (mkw c0 c1 c2 c3 c4 c5 c6 c7 c8 c9 c10 c11 r13.2 c13) d h := hW
            refine en_if_eq (by decide +kernel : u_at kl_207 90 = some (.ifCond .eq 13, [103])) (fun b14 => ?_) (fun b14 => ?_)
            · replace hF := i_pos b14 hF
              refine en_segs [(103, .aload_n 0, []), (104, .ldc2_w 289, [495622976357])] (by decide +kernel) (y := (107, [some (.ref a0), some (.int p1)], [.long 495622976357, .ref a0], h)) rfl ?_
              obtain ⟨r15, hr15, hF⟩ := ob_some hF
              refine en_vi (r := []) (by decide +kernel : u_at kl_207 107 = some (.invokevirtual 144, [180, 1, 12])) hW ha0 rfl rfl (Nat.le_of_ble_eq_true rfl) (e_180 (D := D) (by omega) hW ha0 hr15) (fun h hW => ?_)
              have hW : HW (mkw c0 c1 c2 c3 c4 c5 c6 c7 c8 c9 c10 c11 r15.2 c13) d h := hW
              obtain ⟨t16, hX, hK⟩ := ob_some hF
              have j17 : ∀ h : UH, HW (mkw c0 c1 c2 c3 c4 c5 c6 c7 c8 c9 c10 c11 t16.2 c13) d h → Ends (EX D) (u_at kl_207) (126, [some (.ref a0), some (.int p1)], [.int t16.1], h) QQ := by
                intro h hW
                have hF := hK
                obtain ⟨z18, hz18, hF⟩ := ob_some hF
                obtain rfl := Option.some.inj hF
                exact en_retZ (by decide +kernel : u_at kl_207 126 = some (.ireturn, [1])) hz18 (hQ _ hW)
              have hF := hX
              refine en_if_eq (by decide +kernel : u_at kl_207 110 = some (.ifCond .eq 11, [121])) (fun b19 => ?_) (fun b19 => ?_)
              · replace hF := i_pos b19 hF
                refine en_segs [(121, .aload_n 0, []), (122, .iload_n 1, [])] (by decide +kernel) (y := (123, [some (.ref a0), some (.int p1)], [.int p1, .ref a0], h)) rfl ?_
                obtain ⟨r20, hr20, hF⟩ := ob_some hF
                refine en_vi (r := []) (by decide +kernel : u_at kl_207 123 = some (.invokevirtual 294, [206, 1, 12])) hW ha0 rfl rfl (Nat.le_of_ble_eq_true rfl) (e_206 (D := D) (by omega) hW ha0 hr20) (fun h hW => ?_)
                have hW : HW (mkw c0 c1 c2 c3 c4 c5 c6 c7 c8 c9 c10 c11 r20.2 c13) d h := hW
                obtain rfl := Option.some.inj hF
                exact j17 _ hW
              · replace hF := i_neg b19 hF
                refine en_segs [(113, .aload_n 0, []), (114, .iload_n 1, [])] (by decide +kernel) (y := (115, [some (.ref a0), some (.int p1)], [.int p1, .ref a0], h)) rfl ?_
                obtain ⟨r21, hr21, hF⟩ := ob_some hF
                refine en_vi (r := []) (by decide +kernel : u_at kl_207 115 = some (.invokevirtual 291, [205, 1, 12])) hW ha0 rfl rfl (Nat.le_of_ble_eq_true rfl) (e_205 (D := D) (by omega) hW ha0 hr21) (fun h hW => ?_)
                have hW : HW (mkw c0 c1 c2 c3 c4 c5 c6 c7 c8 c9 c10 c11 r21.2 c13) d h := hW
                refine en_segs [(118, .goto 8, [126])] (by decide +kernel) (y := (126, [some (.ref a0), some (.int p1)], [.int r21.1], h)) rfl ?_
                obtain rfl := Option.some.inj hF
                exact j17 _ hW
            · replace hF := i_neg b14 hF
              refine en_segs [(93, .aload_n 0, []), (94, .bipush 82, []), (96, .iconst 1, []), (97, .bipush 99, [])] (by decide +kernel) (y := (99, [some (.ref a0), some (.int p1)], [.int 99, .int 1, .int 82, .ref a0], h)) rfl ?_
              obtain ⟨r22, hr22, hF⟩ := ob_some hF
              refine en_vi (r := []) (by decide +kernel : u_at kl_207 99 = some (.invokevirtual 284, [204, 3, 12])) hW ha0 rfl rfl (Nat.le_of_ble_eq_true rfl) (e_204 (D := D) (by omega) hW ha0 hr22) (fun h hW => ?_)
              have hW : HW (mkw c0 c1 c2 c3 c4 c5 c6 c7 c8 c9 c10 c11 r22.2 c13) d h := hW
              obtain ⟨z23, hz23, hF⟩ := ob_some hF
              obtain rfl := Option.some.inj hF
              exact en_retZ (by decide +kernel : u_at kl_207 102 = some (.ireturn, [1])) hz23 (hQ _ hW)
          · replace hF := i_neg b12 hF
            refine en_segs [(74, .aload_n 0, []), (75, .bipush 76, []), (77, .iconst 0, []), (78, .iconst 5, [])] (by decide +kernel) (y := (79, [some (.ref a0), some (.int p1)], [.int 5, .int 0, .int 76, .ref a0], h)) rfl ?_
            obtain ⟨r24, hr24, hF⟩ := ob_some hF
            refine en_vi (r := []) (by decide +kernel : u_at kl_207 79 = some (.invokevirtual 284, [204, 3, 12])) hW ha0 rfl rfl (Nat.le_of_ble_eq_true rfl) (e_204 (D := D) (by omega) hW ha0 hr24) (fun h hW => ?_)
            have hW : HW (mkw c0 c1 c2 c3 c4 c5 c6 c7 c8 c9 c10 c11 r24.2 c13) d h := hW
            obtain ⟨z25, hz25, hF⟩ := ob_some hF
            obtain rfl := Option.some.inj hF
            exact en_retZ (by decide +kernel : u_at kl_207 82 = some (.ireturn, [1])) hz25 (hQ _ hW)
        · replace hF := i_neg b10 hF
          refine en_segs [(58, .aload_n 0, []), (59, .iload_n 1, [])] (by decide +kernel) (y := (60, [some (.ref a0), some (.int p1)], [.int p1, .ref a0], h)) rfl ?_
          obtain ⟨r26, hr26, hF⟩ := ob_some hF
          refine en_vi (r := []) (by decide +kernel : u_at kl_207 60 = some (.invokevirtual 279, [203, 1, 12])) hW ha0 rfl rfl (Nat.le_of_ble_eq_true rfl) (e_203 (D := D) (by omega) hW ha0 hr26) (fun h hW => ?_)
          have hW : HW (mkw c0 c1 c2 c3 c4 c5 c6 c7 c8 c9 c10 c11 r26.2 c13) d h := hW
          obtain ⟨z27, hz27, hF⟩ := ob_some hF
          obtain rfl := Option.some.inj hF
          exact en_retZ (by decide +kernel : u_at kl_207 63 = some (.ireturn, [1])) hz27 (hQ _ hW)
      · replace hF := i_neg b8 hF
        refine en_segs [(42, .aload_n 0, []), (43, .iload_n 1, [])] (by decide +kernel) (y := (44, [some (.ref a0), some (.int p1)], [.int p1, .ref a0], h)) rfl ?_
        obtain ⟨r28, hr28, hF⟩ := ob_some hF
        refine en_vi (r := []) (by decide +kernel : u_at kl_207 44 = some (.invokevirtual 276, [202, 1, 12])) hW ha0 rfl rfl (Nat.le_of_ble_eq_true rfl) (e_202 (D := D) (by omega) hW ha0 hr28) (fun h hW => ?_)
        have hW : HW (mkw c0 c1 c2 c3 c4 c5 c6 c7 c8 c9 c10 c11 r28.2 c13) d h := hW
        obtain ⟨z29, hz29, hF⟩ := ob_some hF
        obtain rfl := Option.some.inj hF
        exact en_retZ (by decide +kernel : u_at kl_207 47 = some (.ireturn, [1])) hz29 (hQ _ hW)
  · replace hF := i_neg b2 hF
    refine en_segs [(10, .aload_n 0, []), (11, .iload_n 1, [])] (by decide +kernel) (y := (12, [some (.ref a0), some (.int p1)], [.int p1, .ref a0], h)) rfl ?_
    obtain ⟨r30, hr30, hF⟩ := ob_some hF
    refine en_vi (r := []) (by decide +kernel : u_at kl_207 12 = some (.invokevirtual 271, [200, 1, 12])) hW ha0 rfl rfl (Nat.le_of_ble_eq_true rfl) (e_200 (D := D) (by omega) hW ha0 hr30) (fun h hW => ?_)
    have hW : HW (mkw c0 c1 c2 c3 c4 c5 c6 c7 c8 c9 c10 c11 r30.2 c13) d h := hW
    obtain ⟨z31, hz31, hF⟩ := ob_some hF
    obtain rfl := Option.some.inj hF
    exact en_retZ (by decide +kernel : u_at kl_207 15 = some (.ireturn, [1])) hz31 (hQ _ hW)
def F_208 (c12 : Cl) (a0 : Nat) : Option (Int32 × Cl) :=
  F_180 c12 a0 491495845235 >>= fun r1 =>
  ((if r1.1 = 0 then
  F_180 r1.2 a0 1685024626 >>= fun r6 =>
  if r6.1 = 0 then
  F_180 r6.2 a0 1751474532 >>= fun r8 =>
  if r8.1 = 0 then
  F_180 r8.2 a0 431198331257 >>= fun r10 =>
  if r10.1 = 0 then
  F_180 r10.2 a0 1836020596 >>= fun r12 =>
  if r12.1 = 0 then
  F_180 r12.2 a0 495622976357 >>= fun r14 =>
  if r14.1 = 0 then
  F_180 r14.2 a0 119200079635826 >>= fun r16 =>
  if r16.1 = 0 then
  some (0, r16.2)
  else
  some (1, r16.2)
  else
  some (1, r14.2)
  else
  some (1, r12.2)
  else
  some (1, r10.2)
  else
  some (1, r8.2)
  else
  some (1, r6.2)
  else
  some (1, r1.2)) : Option (Int32 × Cl)) >>= fun (t2 : Int32 × Cl) =>
  zb t2.1 >>= fun z4 => some (z4, t2.2)
set_option maxRecDepth 100000 in
set_option maxHeartbeats 4000000 in
/-- HeadCountsModel.isHouseWord -/
theorem e_208 {D : Nat} {c0 c1 c2 c3 c4 c5 c6 c7 c8 c9 c10 c11 c12 c13 : Cl} {d : Ad} {h : UH} {a0 : Nat} {r : (Int32 × Cl)} (hD : 3 ≤ D) (hW : HW (mkw c0 c1 c2 c3 c4 c5 c6 c7 c8 c9 c10 c11 c12 c13) d h) (ha0 : aK d a0 = (0, 12, 0)) (hF : F_208 c12 a0 = some r) : ∃ q, EX D 208 [.ref a0] h q ∧ q.1 = some (.int r.1) ∧ HW (mkw c0 c1 c2 c3 c4 c5 c6 c7 c8 c9 c10 c11 r.2 c13) d q.2 := by
  obtain ⟨D, rfl⟩ : ∃ E, D = E + 1 := ⟨D - 1, by omega⟩
  unfold F_208 at hF
  refine ex_in (kl := kl_208) (nL := 1) rfl (by decide +kernel) (Nat.le_of_ble_eq_true rfl) ?_
  obtain ⟨QQ, hQQ⟩ : ∃ QQ : UR → Prop, QQ = (fun q : UR => q.1 = some (.int r.1) ∧ HW (mkw c0 c1 c2 c3 c4 c5 c6 c7 c8 c9 c10 c11 r.2 c13) d q.2) := ⟨_, rfl⟩
  rw [← hQQ]
  have hQ : ∀ h' : UH, HW (mkw c0 c1 c2 c3 c4 c5 c6 c7 c8 c9 c10 c11 r.2 c13) d h' → QQ (some (.int r.1), h') := fun h' p => by rw [hQQ]; exact ⟨rfl, p⟩
  clear hQQ
  show Ends (EX D) (u_at kl_208) (0, [some (.ref a0)], [], h) QQ
  refine en_segs [(0, .aload_n 0, []), (1, .ldc2_w 269, [491495845235])] (by decide +kernel) (y := (4, [some (.ref a0)], [.long 491495845235, .ref a0], h)) rfl ?_
  obtain ⟨r1, hr1, hF⟩ := ob_some hF
  refine en_vi (r := []) (by decide +kernel : u_at kl_208 4 = some (.invokevirtual 144, [180, 1, 12])) hW ha0 rfl rfl (Nat.le_of_ble_eq_true rfl) (e_180 (D := D) (by omega) hW ha0 hr1) (fun h hW => ?_)
  have hW : HW (mkw c0 c1 c2 c3 c4 c5 c6 c7 c8 c9 c10 c11 r1.2 c13) d h := hW
  obtain ⟨t2, hX, hK⟩ := ob_some hF
  have j3 : ∀ h : UH, HW (mkw c0 c1 c2 c3 c4 c5 c6 c7 c8 c9 c10 c11 t2.2 c13) d h → Ends (EX D) (u_at kl_208) (75, [some (.ref a0)], [.int t2.1], h) QQ := by
    intro h hW
    have hF := hK
    obtain ⟨z4, hz4, hF⟩ := ob_some hF
    obtain rfl := Option.some.inj hF
    exact en_retZ (by decide +kernel : u_at kl_208 75 = some (.ireturn, [1])) hz4 (hQ _ hW)
  have hF := hX
  refine en_if_ne (by decide +kernel : u_at kl_208 7 = some (.ifCond .ne 63, [70])) (fun b5 => ?_) (fun b5 => ?_)
  · replace hF := i_pos b5 hF
    refine en_segs [(10, .aload_n 0, []), (11, .ldc2_w 274, [1685024626])] (by decide +kernel) (y := (14, [some (.ref a0)], [.long 1685024626, .ref a0], h)) rfl ?_
    obtain ⟨r6, hr6, hF⟩ := ob_some hF
    refine en_vi (r := []) (by decide +kernel : u_at kl_208 14 = some (.invokevirtual 144, [180, 1, 12])) hW ha0 rfl rfl (Nat.le_of_ble_eq_true rfl) (e_180 (D := D) (by omega) hW ha0 hr6) (fun h hW => ?_)
    have hW : HW (mkw c0 c1 c2 c3 c4 c5 c6 c7 c8 c9 c10 c11 r6.2 c13) d h := hW
    refine en_if_ne (by decide +kernel : u_at kl_208 17 = some (.ifCond .ne 53, [70])) (fun b7 => ?_) (fun b7 => ?_)
    · replace hF := i_pos b7 hF
      refine en_segs [(20, .aload_n 0, []), (21, .ldc2_w 165, [1751474532])] (by decide +kernel) (y := (24, [some (.ref a0)], [.long 1751474532, .ref a0], h)) rfl ?_
      obtain ⟨r8, hr8, hF⟩ := ob_some hF
      refine en_vi (r := []) (by decide +kernel : u_at kl_208 24 = some (.invokevirtual 144, [180, 1, 12])) hW ha0 rfl rfl (Nat.le_of_ble_eq_true rfl) (e_180 (D := D) (by omega) hW ha0 hr8) (fun h hW => ?_)
      have hW : HW (mkw c0 c1 c2 c3 c4 c5 c6 c7 c8 c9 c10 c11 r8.2 c13) d h := hW
      refine en_if_ne (by decide +kernel : u_at kl_208 27 = some (.ifCond .ne 43, [70])) (fun b9 => ?_) (fun b9 => ?_)
      · replace hF := i_pos b9 hF
        refine en_segs [(30, .aload_n 0, []), (31, .ldc2_w 282, [431198331257])] (by decide +kernel) (y := (34, [some (.ref a0)], [.long 431198331257, .ref a0], h)) rfl ?_
        obtain ⟨r10, hr10, hF⟩ := ob_some hF
        refine en_vi (r := []) (by decide +kernel : u_at kl_208 34 = some (.invokevirtual 144, [180, 1, 12])) hW ha0 rfl rfl (Nat.le_of_ble_eq_true rfl) (e_180 (D := D) (by omega) hW ha0 hr10) (fun h hW => ?_)
        have hW : HW (mkw c0 c1 c2 c3 c4 c5 c6 c7 c8 c9 c10 c11 r10.2 c13) d h := hW
        refine en_if_ne (by decide +kernel : u_at kl_208 37 = some (.ifCond .ne 33, [70])) (fun b11 => ?_) (fun b11 => ?_)
        · replace hF := i_pos b11 hF
          refine en_segs [(40, .aload_n 0, []), (41, .ldc2_w 287, [1836020596])] (by decide +kernel) (y := (44, [some (.ref a0)], [.long 1836020596, .ref a0], h)) rfl ?_
          obtain ⟨r12, hr12, hF⟩ := ob_some hF
          refine en_vi (r := []) (by decide +kernel : u_at kl_208 44 = some (.invokevirtual 144, [180, 1, 12])) hW ha0 rfl rfl (Nat.le_of_ble_eq_true rfl) (e_180 (D := D) (by omega) hW ha0 hr12) (fun h hW => ?_)
          have hW : HW (mkw c0 c1 c2 c3 c4 c5 c6 c7 c8 c9 c10 c11 r12.2 c13) d h := hW
          refine en_if_ne (by decide +kernel : u_at kl_208 47 = some (.ifCond .ne 23, [70])) (fun b13 => ?_) (fun b13 => ?_)
          · replace hF := i_pos b13 hF
            refine en_segs [(50, .aload_n 0, []), (51, .ldc2_w 289, [495622976357])] (by decide +kernel) (y := (54, [some (.ref a0)], [.long 495622976357, .ref a0], h)) rfl ?_
            obtain ⟨r14, hr14, hF⟩ := ob_some hF
            refine en_vi (r := []) (by decide +kernel : u_at kl_208 54 = some (.invokevirtual 144, [180, 1, 12])) hW ha0 rfl rfl (Nat.le_of_ble_eq_true rfl) (e_180 (D := D) (by omega) hW ha0 hr14) (fun h hW => ?_)
            have hW : HW (mkw c0 c1 c2 c3 c4 c5 c6 c7 c8 c9 c10 c11 r14.2 c13) d h := hW
            refine en_if_ne (by decide +kernel : u_at kl_208 57 = some (.ifCond .ne 13, [70])) (fun b15 => ?_) (fun b15 => ?_)
            · replace hF := i_pos b15 hF
              refine en_segs [(60, .aload_n 0, []), (61, .ldc2_w 297, [119200079635826])] (by decide +kernel) (y := (64, [some (.ref a0)], [.long 119200079635826, .ref a0], h)) rfl ?_
              obtain ⟨r16, hr16, hF⟩ := ob_some hF
              refine en_vi (r := []) (by decide +kernel : u_at kl_208 64 = some (.invokevirtual 144, [180, 1, 12])) hW ha0 rfl rfl (Nat.le_of_ble_eq_true rfl) (e_180 (D := D) (by omega) hW ha0 hr16) (fun h hW => ?_)
              have hW : HW (mkw c0 c1 c2 c3 c4 c5 c6 c7 c8 c9 c10 c11 r16.2 c13) d h := hW
              refine en_if_eq (by decide +kernel : u_at kl_208 67 = some (.ifCond .eq 7, [74])) (fun b17 => ?_) (fun b17 => ?_)
              · replace hF := i_pos b17 hF
                refine en_segs [(74, .iconst 0, [])] (by decide +kernel) (y := (75, [some (.ref a0)], [.int 0], h)) rfl ?_
                obtain rfl := Option.some.inj hF
                exact j3 _ hW
              · replace hF := i_neg b17 hF
                refine en_segs [(70, .iconst 1, []), (71, .goto 4, [75])] (by decide +kernel) (y := (75, [some (.ref a0)], [.int 1], h)) rfl ?_
                obtain rfl := Option.some.inj hF
                exact j3 _ hW
            · replace hF := i_neg b15 hF
              refine en_segs [(70, .iconst 1, []), (71, .goto 4, [75])] (by decide +kernel) (y := (75, [some (.ref a0)], [.int 1], h)) rfl ?_
              obtain rfl := Option.some.inj hF
              exact j3 _ hW
          · replace hF := i_neg b13 hF
            refine en_segs [(70, .iconst 1, []), (71, .goto 4, [75])] (by decide +kernel) (y := (75, [some (.ref a0)], [.int 1], h)) rfl ?_
            obtain rfl := Option.some.inj hF
            exact j3 _ hW
        · replace hF := i_neg b11 hF
          refine en_segs [(70, .iconst 1, []), (71, .goto 4, [75])] (by decide +kernel) (y := (75, [some (.ref a0)], [.int 1], h)) rfl ?_
          obtain rfl := Option.some.inj hF
          exact j3 _ hW
      · replace hF := i_neg b9 hF
        refine en_segs [(70, .iconst 1, []), (71, .goto 4, [75])] (by decide +kernel) (y := (75, [some (.ref a0)], [.int 1], h)) rfl ?_
        obtain rfl := Option.some.inj hF
        exact j3 _ hW
    · replace hF := i_neg b7 hF
      refine en_segs [(70, .iconst 1, []), (71, .goto 4, [75])] (by decide +kernel) (y := (75, [some (.ref a0)], [.int 1], h)) rfl ?_
      obtain rfl := Option.some.inj hF
      exact j3 _ hW
  · replace hF := i_neg b5 hF
    refine en_segs [(70, .iconst 1, []), (71, .goto 4, [75])] (by decide +kernel) (y := (75, [some (.ref a0)], [.int 1], h)) rfl ?_
    obtain rfl := Option.some.inj hF
    exact j3 _ hW
def G_209 (c12 : Cl) (a0 : Nat) (lab : Nat) (xs : List Int32) (ys : List Int64) (zs : List Nat) : Option (Int32 × Cl) := match lab, xs, ys, zs with
  | 0, [x1], [], [] =>
    F_176 c12 a0 0 x1 >>= fun r10 =>
    zb r10.1 >>= fun z11 => some (z11, r10.2)
  | 1, [x1, x2], [], [] =>
    ((if x2 = 0 then
    some 12
    else
    some 40) : Option (Int32)) >>= fun (t12 : Int32) =>
    if (cI c12 14 a0) = t12 then
    F_176 c12 a0 4 x1 >>= fun r15 =>
    zb r15.1 >>= fun z16 => some (z16, r15.2)
    else
    some (sI c12 14 a0 ((cI c12 14 a0) + 1)) >>= fun c12_17 =>
    ((if x2 = 0 then
    F_198 c12_17 a0 >>= fun r22 =>
    some (r22.1, r22.2)
    else
    F_207 c12_17 a0 x1 >>= fun r23 =>
    some (r23.1, r23.2)) : Option (Int32 × Cl)) >>= fun (t18 : Int32 × Cl) =>
    zb t18.1 >>= fun z20 => some (z20, t18.2)
  | _, _, _, _ => none
set_option maxRecDepth 100000 in
set_option maxHeartbeats 4000000 in
theorem g_209 {D : Nat} (hD : 11 ≤ D + 1) {c0 c1 c2 c3 c4 c5 c6 c7 c8 c9 c10 c11 c12 c13 : Cl} {d : Ad} {a0 : Nat} (ha0 : aK d a0 = (0, 12, 0)) : ∀ (lab : Nat) (xs : List Int32) (ys : List Int64) (zs : List Nat) (r : (Int32 × Cl)), G_209 c12 a0 lab xs ys zs = some r →
    (∀ (x1 : Int32), lab = 0 → xs = [x1] → ys = [] → zs = [] → ∀ h : UH, HW (mkw c0 c1 c2 c3 c4 c5 c6 c7 c8 c9 c10 c11 c12 c13) d h → ∀ QQ : UR → Prop, (∀ h' : UH, HW (mkw c0 c1 c2 c3 c4 c5 c6 c7 c8 c9 c10 c11 r.2 c13) d h' → QQ (some (.int r.1), h')) → Ends (EX D) (u_at kl_209) (49, [some (.ref a0), some (.int x1), none], [], h) QQ) ∧
    (∀ (x1 : Int32) (x2 : Int32), lab = 1 → xs = [x1, x2] → ys = [] → zs = [] → ∀ h : UH, HW (mkw c0 c1 c2 c3 c4 c5 c6 c7 c8 c9 c10 c11 c12 c13) d h → ∀ QQ : UR → Prop, (∀ h' : UH, HW (mkw c0 c1 c2 c3 c4 c5 c6 c7 c8 c9 c10 c11 r.2 c13) d h' → QQ (some (.int r.1), h')) → Ends (EX D) (u_at kl_209) (56, [some (.ref a0), some (.int x1), some (.int x2)], [], h) QQ) := by
  intro lab xs ys zs r hF
  unfold G_209 at hF
  refine ⟨?_, ?_⟩
  · intro x1 e1 e2 e3 e4 h hW QQ hQ
    subst e1 e2 e3 e4
    refine en_segs [(49, .aload_n 0, []), (50, .iconst 0, []), (51, .iload_n 1, [])] (by decide +kernel) (y := (52, [some (.ref a0), some (.int x1), none], [.int x1, .int 0, .ref a0], h)) rfl ?_
    obtain ⟨r10, hr10, hF⟩ := ob_some hF
    refine en_vi (r := []) (by decide +kernel : u_at kl_209 52 = some (.invokevirtual 154, [176, 2, 12])) hW ha0 rfl rfl (Nat.le_of_ble_eq_true rfl) (e_176 (D := D) (by omega) hW ha0 hr10) (fun h hW => ?_)
    have hW : HW (mkw c0 c1 c2 c3 c4 c5 c6 c7 c8 c9 c10 c11 r10.2 c13) d h := hW
    obtain ⟨z11, hz11, hF⟩ := ob_some hF
    obtain rfl := Option.some.inj hF
    exact en_retZ (by decide +kernel : u_at kl_209 55 = some (.ireturn, [1])) hz11 (hQ _ hW)
  · intro x1 x2 e1 e2 e3 e4 h hW QQ hQ
    subst e1 e2 e3 e4
    refine en_segs [(56, .aload_n 0, [])] (by decide +kernel) (y := (57, [some (.ref a0), some (.int x1), some (.int x2)], [.ref a0], h)) rfl ?_
    refine en_get (by decide +kernel : u_at kl_209 57 = some (.getfield 304, [12, 14])) hW ha0 (by decide) rfl ?_
    refine en_segs [(60, .iload_n 2, [])] (by decide +kernel) (y := (61, [some (.ref a0), some (.int x1), some (.int x2)], [.int x2, .int (cI c12 14 a0)], h)) rfl ?_
    obtain ⟨t12, hX, hK⟩ := ob_some hF
    have j13 : ∀ h : UH, HW (mkw c0 c1 c2 c3 c4 c5 c6 c7 c8 c9 c10 c11 c12 c13) d h → Ends (EX D) (u_at kl_209) (71, [some (.ref a0), some (.int x1), some (.int x2)], [.int t12, .int (cI c12 14 a0)], h) QQ := by
      intro h hW
      have hF := hK
      refine en_ic_ne (by decide +kernel : u_at kl_209 71 = some (.if_icmp .ne 10, [81])) (fun b14 => ?_) (fun b14 => ?_)
      · replace hF := i_pos b14 hF
        refine en_segs [(74, .aload_n 0, []), (75, .iconst 4, []), (76, .iload_n 1, [])] (by decide +kernel) (y := (77, [some (.ref a0), some (.int x1), some (.int x2)], [.int x1, .int 4, .ref a0], h)) rfl ?_
        obtain ⟨r15, hr15, hF⟩ := ob_some hF
        refine en_vi (r := []) (by decide +kernel : u_at kl_209 77 = some (.invokevirtual 154, [176, 2, 12])) hW ha0 rfl rfl (Nat.le_of_ble_eq_true rfl) (e_176 (D := D) (by omega) hW ha0 hr15) (fun h hW => ?_)
        have hW : HW (mkw c0 c1 c2 c3 c4 c5 c6 c7 c8 c9 c10 c11 r15.2 c13) d h := hW
        obtain ⟨z16, hz16, hF⟩ := ob_some hF
        obtain rfl := Option.some.inj hF
        exact en_retZ (by decide +kernel : u_at kl_209 80 = some (.ireturn, [1])) hz16 (hQ _ hW)
      · replace hF := i_neg b14 hF
        refine en_segs [(81, .aload_n 0, []), (82, .dup, [])] (by decide +kernel) (y := (83, [some (.ref a0), some (.int x1), some (.int x2)], [.ref a0, .ref a0], h)) rfl ?_
        refine en_get (by decide +kernel : u_at kl_209 83 = some (.getfield 304, [12, 14])) hW ha0 (by decide) rfl ?_
        refine en_segs [(86, .iconst 1, []), (87, .iadd, [])] (by decide +kernel) (y := (88, [some (.ref a0), some (.int x1), some (.int x2)], [.int ((cI c12 14 a0) + 1), .ref a0], h)) rfl ?_
        obtain ⟨c12_17, hc12_17, hF⟩ := ob_some hF
        refine en_putI (by decide +kernel : u_at kl_209 88 = some (.putfield 304, [12, 14, 0])) hW ha0 rfl (by decide) rfl (fun h hW => ?_)
        have hW : HW (mkw c0 c1 c2 c3 c4 c5 c6 c7 c8 c9 c10 c11 c12_17 c13) d h := by rw [← Option.some.inj hc12_17]; exact hW
        refine en_segs [(91, .iload_n 2, [])] (by decide +kernel) (y := (92, [some (.ref a0), some (.int x1), some (.int x2)], [.int x2], h)) rfl ?_
        obtain ⟨t18, hX, hK⟩ := ob_some hF
        have j19 : ∀ h : UH, HW (mkw c0 c1 c2 c3 c4 c5 c6 c7 c8 c9 c10 c11 t18.2 c13) d h → Ends (EX D) (u_at kl_209) (107, [some (.ref a0), some (.int x1), some (.int x2)], [.int t18.1], h) QQ := by
          intro h hW
          have hF := hK
          obtain ⟨z20, hz20, hF⟩ := ob_some hF
          obtain rfl := Option.some.inj hF
          exact en_retZ (by decide +kernel : u_at kl_209 107 = some (.ireturn, [1])) hz20 (hQ _ hW)
        have hF := hX
        refine en_if_eq (by decide +kernel : u_at kl_209 92 = some (.ifCond .eq 11, [103])) (fun b21 => ?_) (fun b21 => ?_)
        · replace hF := i_pos b21 hF
          refine en_segs [(103, .aload_n 0, [])] (by decide +kernel) (y := (104, [some (.ref a0), some (.int x1), some (.int x2)], [.ref a0], h)) rfl ?_
          obtain ⟨r22, hr22, hF⟩ := ob_some hF
          refine en_vi (r := []) (by decide +kernel : u_at kl_209 104 = some (.invokevirtual 310, [198, 0, 12])) hW ha0 rfl rfl (Nat.le_of_ble_eq_true rfl) (e_198 (D := D) (by omega) hW ha0 hr22) (fun h hW => ?_)
          have hW : HW (mkw c0 c1 c2 c3 c4 c5 c6 c7 c8 c9 c10 c11 r22.2 c13) d h := hW
          obtain rfl := Option.some.inj hF
          exact j19 _ hW
        · replace hF := i_neg b21 hF
          refine en_segs [(95, .aload_n 0, []), (96, .iload_n 1, [])] (by decide +kernel) (y := (97, [some (.ref a0), some (.int x1), some (.int x2)], [.int x1, .ref a0], h)) rfl ?_
          obtain ⟨r23, hr23, hF⟩ := ob_some hF
          refine en_vi (r := []) (by decide +kernel : u_at kl_209 97 = some (.invokevirtual 307, [207, 1, 12])) hW ha0 rfl rfl (Nat.le_of_ble_eq_true rfl) (e_207 (D := D) (by omega) hW ha0 hr23) (fun h hW => ?_)
          have hW : HW (mkw c0 c1 c2 c3 c4 c5 c6 c7 c8 c9 c10 c11 r23.2 c13) d h := hW
          refine en_segs [(100, .goto 7, [107])] (by decide +kernel) (y := (107, [some (.ref a0), some (.int x1), some (.int x2)], [.int r23.1], h)) rfl ?_
          obtain rfl := Option.some.inj hF
          exact j19 _ hW
    have hF := hX
    refine en_if_eq (by decide +kernel : u_at kl_209 61 = some (.ifCond .eq 8, [69])) (fun b24 => ?_) (fun b24 => ?_)
    · replace hF := i_pos b24 hF
      refine en_segs [(69, .bipush 12, [])] (by decide +kernel) (y := (71, [some (.ref a0), some (.int x1), some (.int x2)], [.int 12, .int (cI c12 14 a0)], h)) rfl ?_
      obtain rfl := Option.some.inj hF
      exact j13 _ hW
    · replace hF := i_neg b24 hF
      refine en_segs [(64, .bipush 40, []), (66, .goto 5, [71])] (by decide +kernel) (y := (71, [some (.ref a0), some (.int x1), some (.int x2)], [.int 40, .int (cI c12 14 a0)], h)) rfl ?_
      obtain rfl := Option.some.inj hF
      exact j13 _ hW
def F_209 (c12 : Cl) (a0 : Nat) : Option (Int32 × Cl) :=
  F_177 c12 a0 >>= fun r1 =>
  ((if (cI r1.2 11 a0) = 6 then
  some 1
  else
  some 0) : Option (Int32)) >>= fun (t2 : Int32) =>
  if t2 = 0 then
  F_180 r1.2 a0 26479 >>= fun r5 =>
  if r5.1 = 0 then
  G_209 r5.2 a0 0 [cI r1.2 8 a0] [] []
  else
  G_209 r5.2 a0 1 [cI r1.2 8 a0, t2] [] []
  else
  F_208 r1.2 a0 >>= fun r7 =>
  if r7.1 = 0 then
  G_209 r7.2 a0 0 [cI r1.2 8 a0] [] []
  else
  G_209 r7.2 a0 1 [cI r1.2 8 a0, t2] [] []
set_option maxRecDepth 100000 in
set_option maxHeartbeats 4000000 in
/-- HeadCountsModel.clauseHere -/
theorem e_209 {D : Nat} {c0 c1 c2 c3 c4 c5 c6 c7 c8 c9 c10 c11 c12 c13 : Cl} {d : Ad} {h : UH} {a0 : Nat} {r : (Int32 × Cl)} (hD : 11 ≤ D) (hW : HW (mkw c0 c1 c2 c3 c4 c5 c6 c7 c8 c9 c10 c11 c12 c13) d h) (ha0 : aK d a0 = (0, 12, 0)) (hF : F_209 c12 a0 = some r) : ∃ q, EX D 209 [.ref a0] h q ∧ q.1 = some (.int r.1) ∧ HW (mkw c0 c1 c2 c3 c4 c5 c6 c7 c8 c9 c10 c11 r.2 c13) d q.2 := by
  obtain ⟨D, rfl⟩ : ∃ E, D = E + 1 := ⟨D - 1, by omega⟩
  unfold F_209 at hF
  refine ex_in (kl := kl_209) (nL := 3) rfl (by decide +kernel) (Nat.le_of_ble_eq_true rfl) ?_
  obtain ⟨QQ, hQQ⟩ : ∃ QQ : UR → Prop, QQ = (fun q : UR => q.1 = some (.int r.1) ∧ HW (mkw c0 c1 c2 c3 c4 c5 c6 c7 c8 c9 c10 c11 r.2 c13) d q.2) := ⟨_, rfl⟩
  rw [← hQQ]
  have hQ : ∀ h' : UH, HW (mkw c0 c1 c2 c3 c4 c5 c6 c7 c8 c9 c10 c11 r.2 c13) d h' → QQ (some (.int r.1), h') := fun h' p => by rw [hQQ]; exact ⟨rfl, p⟩
  clear hQQ
  show Ends (EX D) (u_at kl_209) (0, [some (.ref a0), none, none], [], h) QQ
  refine en_segs [(0, .aload_n 0, [])] (by decide +kernel) (y := (1, [some (.ref a0), none, none], [.ref a0], h)) rfl ?_
  obtain ⟨r1, hr1, hF⟩ := ob_some hF
  refine en_vi (r := []) (by decide +kernel : u_at kl_209 1 = some (.invokevirtual 136, [177, 0, 12])) hW ha0 rfl rfl (Nat.le_of_ble_eq_true rfl) (e_177 (D := D) (by omega) hW ha0 hr1) (fun h hW => ?_)
  have hW : HW (mkw c0 c1 c2 c3 c4 c5 c6 c7 c8 c9 c10 c11 r1.2 c13) d h := hW
  refine en_segs [(4, .pop, []), (5, .aload_n 0, [])] (by decide +kernel) (y := (6, [some (.ref a0), none, none], [.ref a0], h)) rfl ?_
  refine en_get (by decide +kernel : u_at kl_209 6 = some (.getfield 133, [12, 8])) hW ha0 (by decide) rfl ?_
  refine en_segs [(9, .istore_n 1, []), (10, .aload_n 0, [])] (by decide +kernel) (y := (11, [some (.ref a0), some (.int (cI r1.2 8 a0)), none], [.ref a0], h)) rfl ?_
  refine en_get (by decide +kernel : u_at kl_209 11 = some (.getfield 189, [12, 11])) hW ha0 (by decide) rfl ?_
  refine en_segs [(14, .bipush 6, [])] (by decide +kernel) (y := (16, [some (.ref a0), some (.int (cI r1.2 8 a0)), none], [.int 6, .int (cI r1.2 11 a0)], h)) rfl ?_
  obtain ⟨t2, hX, hK⟩ := ob_some hF
  have j3 : ∀ h : UH, HW (mkw c0 c1 c2 c3 c4 c5 c6 c7 c8 c9 c10 c11 r1.2 c13) d h → Ends (EX D) (u_at kl_209) (24, [some (.ref a0), some (.int (cI r1.2 8 a0)), none], [.int t2], h) QQ := by
    intro h hW
    have hF := hK
    refine en_segs [(24, .istore_n 2, []), (25, .iload_n 2, [])] (by decide +kernel) (y := (26, [some (.ref a0), some (.int (cI r1.2 8 a0)), some (.int t2)], [.int t2], h)) rfl ?_
    refine en_if_eq (by decide +kernel : u_at kl_209 26 = some (.ifCond .eq 13, [39])) (fun b4 => ?_) (fun b4 => ?_)
    · replace hF := i_pos b4 hF
      refine en_segs [(39, .aload_n 0, []), (40, .ldc2_w 302, [26479])] (by decide +kernel) (y := (43, [some (.ref a0), some (.int (cI r1.2 8 a0)), some (.int t2)], [.long 26479, .ref a0], h)) rfl ?_
      obtain ⟨r5, hr5, hF⟩ := ob_some hF
      refine en_vi (r := []) (by decide +kernel : u_at kl_209 43 = some (.invokevirtual 144, [180, 1, 12])) hW ha0 rfl rfl (Nat.le_of_ble_eq_true rfl) (e_180 (D := D) (by omega) hW ha0 hr5) (fun h hW => ?_)
      have hW : HW (mkw c0 c1 c2 c3 c4 c5 c6 c7 c8 c9 c10 c11 r5.2 c13) d h := hW
      refine en_if_ne (by decide +kernel : u_at kl_209 46 = some (.ifCond .ne 10, [56])) (fun b6 => ?_) (fun b6 => ?_)
      · replace hF := i_pos b6 hF
        refine en_fg (fg_k (fg_k (fg_d fg_0))) ?_
        exact (g_209 (D := D) hD ha0 _ _ _ _ _ hF).1 _ rfl rfl rfl rfl  _ hW _ hQ
      · replace hF := i_neg b6 hF
        exact (g_209 (D := D) hD ha0 _ _ _ _ _ hF).2 _ _ rfl rfl rfl rfl  _ hW _ hQ
    · replace hF := i_neg b4 hF
      refine en_segs [(29, .aload_n 0, [])] (by decide +kernel) (y := (30, [some (.ref a0), some (.int (cI r1.2 8 a0)), some (.int t2)], [.ref a0], h)) rfl ?_
      obtain ⟨r7, hr7, hF⟩ := ob_some hF
      refine en_vi (r := []) (by decide +kernel : u_at kl_209 30 = some (.invokevirtual 299, [208, 0, 12])) hW ha0 rfl rfl (Nat.le_of_ble_eq_true rfl) (e_208 (D := D) (by omega) hW ha0 hr7) (fun h hW => ?_)
      have hW : HW (mkw c0 c1 c2 c3 c4 c5 c6 c7 c8 c9 c10 c11 r7.2 c13) d h := hW
      refine en_if_ne (by decide +kernel : u_at kl_209 33 = some (.ifCond .ne 23, [56])) (fun b8 => ?_) (fun b8 => ?_)
      · replace hF := i_pos b8 hF
        refine en_segs [(36, .goto 13, [49])] (by decide +kernel) (y := (49, [some (.ref a0), some (.int (cI r1.2 8 a0)), some (.int t2)], [], h)) rfl ?_
        refine en_fg (fg_k (fg_k (fg_d fg_0))) ?_
        exact (g_209 (D := D) hD ha0 _ _ _ _ _ hF).1 _ rfl rfl rfl rfl  _ hW _ hQ
      · replace hF := i_neg b8 hF
        exact (g_209 (D := D) hD ha0 _ _ _ _ _ hF).2 _ _ rfl rfl rfl rfl  _ hW _ hQ
  have hF := hX
  refine en_ic_ne (by decide +kernel : u_at kl_209 16 = some (.if_icmp .ne 7, [23])) (fun b9 => ?_) (fun b9 => ?_)
  · replace hF := i_pos b9 hF
    refine en_segs [(19, .iconst 1, []), (20, .goto 4, [24])] (by decide +kernel) (y := (24, [some (.ref a0), some (.int (cI r1.2 8 a0)), none], [.int 1], h)) rfl ?_
    obtain rfl := Option.some.inj hF
    exact j3 _ hW
  · replace hF := i_neg b9 hF
    refine en_segs [(23, .iconst 0, [])] (by decide +kernel) (y := (24, [some (.ref a0), some (.int (cI r1.2 8 a0)), none], [.int 0], h)) rfl ?_
    obtain rfl := Option.some.inj hF
    exact j3 _ hW
def G_210 (a0 : Nat) (lab : Nat) (xs : List Int32) (ys : List Int64) (zs : List Nat) (c12 : Cl) : Option (Int32 × Cl) := match lab, xs, ys, zs with
  | 0, [x1], [], [] =>
    if x1 = 0 then
    G_210 a0 1 [x1] [] [] c12
    else
    F_177 c12 a0 >>= fun r8 =>
    if r8.1 = 59 then
    some (sI r8.2 8 a0 ((cI r8.2 8 a0) + 1)) >>= fun c12_10 =>
    F_209 c12_10 a0 >>= fun r11 =>
    G_210 a0 0 [r11.1] [] [] r11.2
    else
    G_210 a0 1 [x1] [] [] r8.2
  | 1, [x1], [], [] =>
    ((if x1 = 0 then
    some c12
    else
    F_177 c12 a0 >>= fun r20 =>
    if r20.1 = (-1) then
    some r20.2
    else
    F_176 r20.2 a0 0 (cI r20.2 8 a0) >>= fun r22 =>
    some r22.2) : Option (Cl)) >>= fun (t12 : Cl) =>
    some (sI t12 1 a0 0) >>= fun c12_14 =>
    ((if (cI c12_14 9 a0) = 0 then
    some 1
    else
    some 0) : Option (Int32)) >>= fun (t15 : Int32) =>
    zb t15 >>= fun z17 => some (z17, c12_14)
  | _, _, _, _ => none
partial_fixpoint
set_option maxRecDepth 100000 in
set_option maxHeartbeats 4000000 in
theorem g_210 {D : Nat} (hD : 12 ≤ D + 1) {c0 c1 c2 c3 c4 c5 c6 c7 c8 c9 c10 c11 c13 : Cl} {d : Ad} {a0 : Nat} (ha0 : aK d a0 = (0, 12, 0)) : ∀ (lab : Nat) (xs : List Int32) (ys : List Int64) (zs : List Nat) (c12 : Cl) (r : (Int32 × Cl)), G_210 a0 lab xs ys zs c12 = some r →
    (∀ (x1 : Int32), lab = 0 → xs = [x1] → ys = [] → zs = [] → ∀ h : UH, HW (mkw c0 c1 c2 c3 c4 c5 c6 c7 c8 c9 c10 c11 c12 c13) d h → ∀ QQ : UR → Prop, (∀ h' : UH, HW (mkw c0 c1 c2 c3 c4 c5 c6 c7 c8 c9 c10 c11 r.2 c13) d h' → QQ (some (.int r.1), h')) → Ends (EX D) (u_at kl_210) (35, [some (.ref a0), some (.int x1)], [], h) QQ) ∧
    (∀ (x1 : Int32), lab = 1 → xs = [x1] → ys = [] → zs = [] → ∀ h : UH, HW (mkw c0 c1 c2 c3 c4 c5 c6 c7 c8 c9 c10 c11 c12 c13) d h → ∀ QQ : UR → Prop, (∀ h' : UH, HW (mkw c0 c1 c2 c3 c4 c5 c6 c7 c8 c9 c10 c11 r.2 c13) d h' → QQ (some (.int r.1), h')) → Ends (EX D) (u_at kl_210) (66, [some (.ref a0), some (.int x1)], [], h) QQ) := by
  refine G_210.partial_correctness _ (motive := fun lab xs ys zs c12 r =>
    (∀ (x1 : Int32), lab = 0 → xs = [x1] → ys = [] → zs = [] → ∀ h : UH, HW (mkw c0 c1 c2 c3 c4 c5 c6 c7 c8 c9 c10 c11 c12 c13) d h → ∀ QQ : UR → Prop, (∀ h' : UH, HW (mkw c0 c1 c2 c3 c4 c5 c6 c7 c8 c9 c10 c11 r.2 c13) d h' → QQ (some (.int r.1), h')) → Ends (EX D) (u_at kl_210) (35, [some (.ref a0), some (.int x1)], [], h) QQ) ∧
    (∀ (x1 : Int32), lab = 1 → xs = [x1] → ys = [] → zs = [] → ∀ h : UH, HW (mkw c0 c1 c2 c3 c4 c5 c6 c7 c8 c9 c10 c11 c12 c13) d h → ∀ QQ : UR → Prop, (∀ h' : UH, HW (mkw c0 c1 c2 c3 c4 c5 c6 c7 c8 c9 c10 c11 r.2 c13) d h' → QQ (some (.int r.1), h')) → Ends (EX D) (u_at kl_210) (66, [some (.ref a0), some (.int x1)], [], h) QQ)) ?_
  intro G ih lab xs ys zs c12 r hF
  refine ⟨?_, ?_⟩
  · intro x1 e1 e2 e3 e4 h hW QQ hQ
    subst e1 e2 e3 e4
    refine en_segs [(35, .iload_n 1, [])] (by decide +kernel) (y := (36, [some (.ref a0), some (.int x1)], [.int x1], h)) rfl ?_
    refine en_if_eq (by decide +kernel : u_at kl_210 36 = some (.ifCond .eq 30, [66])) (fun b7 => ?_) (fun b7 => ?_)
    · replace hF := i_pos b7 hF
      exact (ih _ _ _ _ _ _ hF).2 _ rfl rfl rfl rfl  _ hW _ hQ
    · replace hF := i_neg b7 hF
      refine en_segs [(39, .aload_n 0, [])] (by decide +kernel) (y := (40, [some (.ref a0), some (.int x1)], [.ref a0], h)) rfl ?_
      obtain ⟨r8, hr8, hF⟩ := ob_some hF
      refine en_vi (r := []) (by decide +kernel : u_at kl_210 40 = some (.invokevirtual 136, [177, 0, 12])) hW ha0 rfl rfl (Nat.le_of_ble_eq_true rfl) (e_177 (D := D) (by omega) hW ha0 hr8) (fun h hW => ?_)
      have hW : HW (mkw c0 c1 c2 c3 c4 c5 c6 c7 c8 c9 c10 c11 r8.2 c13) d h := hW
      refine en_segs [(43, .bipush 59, [])] (by decide +kernel) (y := (45, [some (.ref a0), some (.int x1)], [.int 59, .int r8.1], h)) rfl ?_
      refine en_ic_ne (by decide +kernel : u_at kl_210 45 = some (.if_icmp .ne 21, [66])) (fun b9 => ?_) (fun b9 => ?_)
      · replace hF := i_pos b9 hF
        refine en_segs [(48, .aload_n 0, []), (49, .dup, [])] (by decide +kernel) (y := (50, [some (.ref a0), some (.int x1)], [.ref a0, .ref a0], h)) rfl ?_
        refine en_get (by decide +kernel : u_at kl_210 50 = some (.getfield 133, [12, 8])) hW ha0 (by decide) rfl ?_
        refine en_segs [(53, .iconst 1, []), (54, .iadd, [])] (by decide +kernel) (y := (55, [some (.ref a0), some (.int x1)], [.int ((cI r8.2 8 a0) + 1), .ref a0], h)) rfl ?_
        obtain ⟨c12_10, hc12_10, hF⟩ := ob_some hF
        refine en_putI (by decide +kernel : u_at kl_210 55 = some (.putfield 133, [12, 8, 0])) hW ha0 rfl (by decide) rfl (fun h hW => ?_)
        have hW : HW (mkw c0 c1 c2 c3 c4 c5 c6 c7 c8 c9 c10 c11 c12_10 c13) d h := by rw [← Option.some.inj hc12_10]; exact hW
        refine en_segs [(58, .aload_n 0, [])] (by decide +kernel) (y := (59, [some (.ref a0), some (.int x1)], [.ref a0], h)) rfl ?_
        obtain ⟨r11, hr11, hF⟩ := ob_some hF
        refine en_vi (r := []) (by decide +kernel : u_at kl_210 59 = some (.invokevirtual 313, [209, 0, 12])) hW ha0 rfl rfl (Nat.le_of_ble_eq_true rfl) (e_209 (D := D) (by omega) hW ha0 hr11) (fun h hW => ?_)
        have hW : HW (mkw c0 c1 c2 c3 c4 c5 c6 c7 c8 c9 c10 c11 r11.2 c13) d h := hW
        refine en_segs [(62, .istore_n 1, []), (63, .goto (-28), [35])] (by decide +kernel) (y := (35, [some (.ref a0), some (.int r11.1)], [], h)) rfl ?_
        exact (ih _ _ _ _ _ _ hF).1 _ rfl rfl rfl rfl  _ hW _ hQ
      · replace hF := i_neg b9 hF
        exact (ih _ _ _ _ _ _ hF).2 _ rfl rfl rfl rfl  _ hW _ hQ
  · intro x1 e1 e2 e3 e4 h hW QQ hQ
    subst e1 e2 e3 e4
    refine en_segs [(66, .iload_n 1, [])] (by decide +kernel) (y := (67, [some (.ref a0), some (.int x1)], [.int x1], h)) rfl ?_
    obtain ⟨t12, hX, hK⟩ := ob_some hF
    have j13 : ∀ h : UH, HW (mkw c0 c1 c2 c3 c4 c5 c6 c7 c8 c9 c10 c11 t12 c13) d h → Ends (EX D) (u_at kl_210) (88, [some (.ref a0), some (.int x1)], [], h) QQ := by
      intro h hW
      have hF := hK
      refine en_segs [(88, .aload_n 0, []), (89, .iconst 0, [])] (by decide +kernel) (y := (90, [some (.ref a0), some (.int x1)], [.int 0, .ref a0], h)) rfl ?_
      obtain ⟨c12_14, hc12_14, hF⟩ := ob_some hF
      refine en_putI (by decide +kernel : u_at kl_210 90 = some (.putfield 122, [12, 1, 0])) hW ha0 rfl (by decide) rfl (fun h hW => ?_)
      have hW : HW (mkw c0 c1 c2 c3 c4 c5 c6 c7 c8 c9 c10 c11 c12_14 c13) d h := by rw [← Option.some.inj hc12_14]; exact hW
      refine en_segs [(93, .aload_n 0, [])] (by decide +kernel) (y := (94, [some (.ref a0), some (.int x1)], [.ref a0], h)) rfl ?_
      refine en_get (by decide +kernel : u_at kl_210 94 = some (.getfield 130, [12, 9])) hW ha0 (by decide) rfl ?_
      obtain ⟨t15, hX, hK⟩ := ob_some hF
      have j16 : ∀ h : UH, HW (mkw c0 c1 c2 c3 c4 c5 c6 c7 c8 c9 c10 c11 c12_14 c13) d h → Ends (EX D) (u_at kl_210) (105, [some (.ref a0), some (.int x1)], [.int t15], h) QQ := by
        intro h hW
        have hF := hK
        obtain ⟨z17, hz17, hF⟩ := ob_some hF
        obtain rfl := Option.some.inj hF
        exact en_retZ (by decide +kernel : u_at kl_210 105 = some (.ireturn, [1])) hz17 (hQ _ hW)
      have hF := hX
      refine en_if_ne (by decide +kernel : u_at kl_210 97 = some (.ifCond .ne 7, [104])) (fun b18 => ?_) (fun b18 => ?_)
      · replace hF := i_pos b18 hF
        refine en_segs [(100, .iconst 1, []), (101, .goto 4, [105])] (by decide +kernel) (y := (105, [some (.ref a0), some (.int x1)], [.int 1], h)) rfl ?_
        obtain rfl := Option.some.inj hF
        exact j16 _ hW
      · replace hF := i_neg b18 hF
        refine en_segs [(104, .iconst 0, [])] (by decide +kernel) (y := (105, [some (.ref a0), some (.int x1)], [.int 0], h)) rfl ?_
        obtain rfl := Option.some.inj hF
        exact j16 _ hW
    have hF := hX
    refine en_if_eq (by decide +kernel : u_at kl_210 67 = some (.ifCond .eq 21, [88])) (fun b19 => ?_) (fun b19 => ?_)
    · replace hF := i_pos b19 hF
      obtain rfl := Option.some.inj hF
      exact j13 _ hW
    · replace hF := i_neg b19 hF
      refine en_segs [(70, .aload_n 0, [])] (by decide +kernel) (y := (71, [some (.ref a0), some (.int x1)], [.ref a0], h)) rfl ?_
      obtain ⟨r20, hr20, hF⟩ := ob_some hF
      refine en_vi (r := []) (by decide +kernel : u_at kl_210 71 = some (.invokevirtual 136, [177, 0, 12])) hW ha0 rfl rfl (Nat.le_of_ble_eq_true rfl) (e_177 (D := D) (by omega) hW ha0 hr20) (fun h hW => ?_)
      have hW : HW (mkw c0 c1 c2 c3 c4 c5 c6 c7 c8 c9 c10 c11 r20.2 c13) d h := hW
      refine en_segs [(74, .iconst (-1), [])] (by decide +kernel) (y := (75, [some (.ref a0), some (.int x1)], [.int (-1), .int r20.1], h)) rfl ?_
      refine en_ic_eq (by decide +kernel : u_at kl_210 75 = some (.if_icmp .eq 13, [88])) (fun b21 => ?_) (fun b21 => ?_)
      · replace hF := i_pos b21 hF
        obtain rfl := Option.some.inj hF
        exact j13 _ hW
      · replace hF := i_neg b21 hF
        refine en_segs [(78, .aload_n 0, []), (79, .iconst 0, []), (80, .aload_n 0, [])] (by decide +kernel) (y := (81, [some (.ref a0), some (.int x1)], [.ref a0, .int 0, .ref a0], h)) rfl ?_
        refine en_get (by decide +kernel : u_at kl_210 81 = some (.getfield 133, [12, 8])) hW ha0 (by decide) rfl ?_
        obtain ⟨r22, hr22, hF⟩ := ob_some hF
        refine en_vi (r := []) (by decide +kernel : u_at kl_210 84 = some (.invokevirtual 154, [176, 2, 12])) hW ha0 rfl rfl (Nat.le_of_ble_eq_true rfl) (e_176 (D := D) (by omega) hW ha0 hr22) (fun h hW => ?_)
        have hW : HW (mkw c0 c1 c2 c3 c4 c5 c6 c7 c8 c9 c10 c11 r22.2 c13) d h := hW
        refine en_segs [(87, .pop, [])] (by decide +kernel) (y := (88, [some (.ref a0), some (.int x1)], [], h)) rfl ?_
        obtain rfl := Option.some.inj hF
        exact j13 _ hW
def F_210 (c12 : Cl) (a0 : Nat) : Option (Int32 × Cl) :=
  ast c12 4 a0 7 (cI c12 11 a0) 0 >>= fun c12_1 =>
  some (sI c12_1 14 a0 0) >>= fun c12_2 =>
  some (sI c12_2 8 a0 0) >>= fun c12_3 =>
  some (sI c12_3 9 a0 0) >>= fun c12_4 =>
  some (sI c12_4 12 a0 0) >>= fun c12_5 =>
  F_209 c12_5 a0 >>= fun r6 =>
  G_210 a0 0 [r6.1] [] [] r6.2
set_option maxRecDepth 100000 in
set_option maxHeartbeats 4000000 in
/-- HeadCountsModel.readsAll -/
theorem e_210 {D : Nat} {c0 c1 c2 c3 c4 c5 c6 c7 c8 c9 c10 c11 c12 c13 : Cl} {d : Ad} {h : UH} {a0 : Nat} {r : (Int32 × Cl)} (hD : 12 ≤ D) (hW : HW (mkw c0 c1 c2 c3 c4 c5 c6 c7 c8 c9 c10 c11 c12 c13) d h) (ha0 : aK d a0 = (0, 12, 0)) (hF : F_210 c12 a0 = some r) : ∃ q, EX D 210 [.ref a0] h q ∧ q.1 = some (.int r.1) ∧ HW (mkw c0 c1 c2 c3 c4 c5 c6 c7 c8 c9 c10 c11 r.2 c13) d q.2 := by
  obtain ⟨D, rfl⟩ : ∃ E, D = E + 1 := ⟨D - 1, by omega⟩
  unfold F_210 at hF
  refine ex_in (kl := kl_210) (nL := 2) rfl (by decide +kernel) (Nat.le_of_ble_eq_true rfl) ?_
  obtain ⟨QQ, hQQ⟩ : ∃ QQ : UR → Prop, QQ = (fun q : UR => q.1 = some (.int r.1) ∧ HW (mkw c0 c1 c2 c3 c4 c5 c6 c7 c8 c9 c10 c11 r.2 c13) d q.2) := ⟨_, rfl⟩
  rw [← hQQ]
  have hQ : ∀ h' : UH, HW (mkw c0 c1 c2 c3 c4 c5 c6 c7 c8 c9 c10 c11 r.2 c13) d h' → QQ (some (.int r.1), h') := fun h' p => by rw [hQQ]; exact ⟨rfl, p⟩
  clear hQQ
  show Ends (EX D) (u_at kl_210) (0, [some (.ref a0), none], [], h) QQ
  refine en_segs [(0, .aload_n 0, [])] (by decide +kernel) (y := (1, [some (.ref a0), none], [.ref a0], h)) rfl ?_
  refine en_get (by decide +kernel : u_at kl_210 1 = some (.getfield 17, [12, 4])) hW ha0 (by decide) rfl ?_
  refine en_segs [(4, .aload_n 0, [])] (by decide +kernel) (y := (5, [some (.ref a0), none], [.ref a0, .ref (aP d 12 4 a0)], h)) rfl ?_
  refine en_get (by decide +kernel : u_at kl_210 5 = some (.getfield 189, [12, 11])) hW ha0 (by decide) rfl ?_
  refine en_segs [(8, .iconst 0, [])] (by decide +kernel) (y := (9, [some (.ref a0), none], [.int 0, .int (cI c12 11 a0), .ref (aP d 12 4 a0)], h)) rfl ?_
  obtain ⟨c12_1, hc12_1, hF⟩ := ob_some hF
  refine en_iast (by decide +kernel : u_at kl_210 9 = some (.iastore, [])) hW ha0 rfl (by decide) hc12_1 (fun h hW => ?_)
  have hW : HW (mkw c0 c1 c2 c3 c4 c5 c6 c7 c8 c9 c10 c11 c12_1 c13) d h := hW
  refine en_segs [(10, .aload_n 0, []), (11, .iconst 0, [])] (by decide +kernel) (y := (12, [some (.ref a0), none], [.int 0, .ref a0], h)) rfl ?_
  obtain ⟨c12_2, hc12_2, hF⟩ := ob_some hF
  refine en_putI (by decide +kernel : u_at kl_210 12 = some (.putfield 304, [12, 14, 0])) hW ha0 rfl (by decide) rfl (fun h hW => ?_)
  have hW : HW (mkw c0 c1 c2 c3 c4 c5 c6 c7 c8 c9 c10 c11 c12_2 c13) d h := by rw [← Option.some.inj hc12_2]; exact hW
  refine en_segs [(15, .aload_n 0, []), (16, .iconst 0, [])] (by decide +kernel) (y := (17, [some (.ref a0), none], [.int 0, .ref a0], h)) rfl ?_
  obtain ⟨c12_3, hc12_3, hF⟩ := ob_some hF
  refine en_putI (by decide +kernel : u_at kl_210 17 = some (.putfield 133, [12, 8, 0])) hW ha0 rfl (by decide) rfl (fun h hW => ?_)
  have hW : HW (mkw c0 c1 c2 c3 c4 c5 c6 c7 c8 c9 c10 c11 c12_3 c13) d h := by rw [← Option.some.inj hc12_3]; exact hW
  refine en_segs [(20, .aload_n 0, []), (21, .iconst 0, [])] (by decide +kernel) (y := (22, [some (.ref a0), none], [.int 0, .ref a0], h)) rfl ?_
  obtain ⟨c12_4, hc12_4, hF⟩ := ob_some hF
  refine en_putI (by decide +kernel : u_at kl_210 22 = some (.putfield 130, [12, 9, 0])) hW ha0 rfl (by decide) rfl (fun h hW => ?_)
  have hW : HW (mkw c0 c1 c2 c3 c4 c5 c6 c7 c8 c9 c10 c11 c12_4 c13) d h := by rw [← Option.some.inj hc12_4]; exact hW
  refine en_segs [(25, .aload_n 0, []), (26, .iconst 0, [])] (by decide +kernel) (y := (27, [some (.ref a0), none], [.int 0, .ref a0], h)) rfl ?_
  obtain ⟨c12_5, hc12_5, hF⟩ := ob_some hF
  refine en_putI (by decide +kernel : u_at kl_210 27 = some (.putfield 192, [12, 12, 0])) hW ha0 rfl (by decide) rfl (fun h hW => ?_)
  have hW : HW (mkw c0 c1 c2 c3 c4 c5 c6 c7 c8 c9 c10 c11 c12_5 c13) d h := by rw [← Option.some.inj hc12_5]; exact hW
  refine en_segs [(30, .aload_n 0, [])] (by decide +kernel) (y := (31, [some (.ref a0), none], [.ref a0], h)) rfl ?_
  obtain ⟨r6, hr6, hF⟩ := ob_some hF
  refine en_vi (r := []) (by decide +kernel : u_at kl_210 31 = some (.invokevirtual 313, [209, 0, 12])) hW ha0 rfl rfl (Nat.le_of_ble_eq_true rfl) (e_209 (D := D) (by omega) hW ha0 hr6) (fun h hW => ?_)
  have hW : HW (mkw c0 c1 c2 c3 c4 c5 c6 c7 c8 c9 c10 c11 r6.2 c13) d h := hW
  refine en_segs [(34, .istore_n 1, [])] (by decide +kernel) (y := (35, [some (.ref a0), some (.int r6.1)], [], h)) rfl ?_
  exact (g_210 (D := D) hD ha0 _ _ _ _ _ _ hF).1 _ rfl rfl rfl rfl  _ hW _ hQ
def F_211 (c12 : Cl) (a0 : Nat) : Option (Int32 × Cl) :=
  if (cI c12 2 a0) = 6 then
  some ((-1), c12)
  else
  some (sI c12 11 a0 (cI c12 2 a0)) >>= fun c12_2 =>
  ast c12_2 6 a0 6 (cI c12_2 11 a0) 0 >>= fun c12_3 =>
  F_210 c12_3 a0 >>= fun r4 =>
  if r4.1 = 0 then
  some ((-2) - (cI r4.2 9 a0), r4.2)
  else
  some (sI r4.2 2 a0 ((cI r4.2 2 a0) + 1)) >>= fun c12_6 =>
  some ((cI c12_6 2 a0) - 1, c12_6)
set_option maxRecDepth 100000 in
set_option maxHeartbeats 4000000 in
/-- HeadCountsModel.rule -/
theorem e_211 {D : Nat} {c0 c1 c2 c3 c4 c5 c6 c7 c8 c9 c10 c11 c12 c13 : Cl} {d : Ad} {h : UH} {a0 : Nat} {r : (Int32 × Cl)} (hD : 13 ≤ D) (hW : HW (mkw c0 c1 c2 c3 c4 c5 c6 c7 c8 c9 c10 c11 c12 c13) d h) (ha0 : aK d a0 = (0, 12, 0)) (hF : F_211 c12 a0 = some r) : ∃ q, EX D 211 [.ref a0] h q ∧ q.1 = some (.int r.1) ∧ HW (mkw c0 c1 c2 c3 c4 c5 c6 c7 c8 c9 c10 c11 r.2 c13) d q.2 := by
  obtain ⟨D, rfl⟩ : ∃ E, D = E + 1 := ⟨D - 1, by omega⟩
  unfold F_211 at hF
  refine ex_in (kl := kl_211) (nL := 1) rfl (by decide +kernel) (Nat.le_of_ble_eq_true rfl) ?_
  obtain ⟨QQ, hQQ⟩ : ∃ QQ : UR → Prop, QQ = (fun q : UR => q.1 = some (.int r.1) ∧ HW (mkw c0 c1 c2 c3 c4 c5 c6 c7 c8 c9 c10 c11 r.2 c13) d q.2) := ⟨_, rfl⟩
  rw [← hQQ]
  have hQ : ∀ h' : UH, HW (mkw c0 c1 c2 c3 c4 c5 c6 c7 c8 c9 c10 c11 r.2 c13) d h' → QQ (some (.int r.1), h') := fun h' p => by rw [hQQ]; exact ⟨rfl, p⟩
  clear hQQ
  show Ends (EX D) (u_at kl_211) (0, [some (.ref a0)], [], h) QQ
  refine en_segs [(0, .aload_n 0, [])] (by decide +kernel) (y := (1, [some (.ref a0)], [.ref a0], h)) rfl ?_
  refine en_get (by decide +kernel : u_at kl_211 1 = some (.getfield 316, [12, 2])) hW ha0 (by decide) rfl ?_
  refine en_segs [(4, .bipush 6, [])] (by decide +kernel) (y := (6, [some (.ref a0)], [.int 6, .int (cI c12 2 a0)], h)) rfl ?_
  refine en_ic_ne (by decide +kernel : u_at kl_211 6 = some (.if_icmp .ne 5, [11])) (fun b1 => ?_) (fun b1 => ?_)
  · replace hF := i_pos b1 hF
    refine en_segs [(9, .iconst (-1), [])] (by decide +kernel) (y := (10, [some (.ref a0)], [.int (-1)], h)) rfl ?_
    obtain rfl := Option.some.inj hF
    exact en_ret (by decide +kernel : u_at kl_211 10 = some (.ireturn, [0])) rfl (hQ _ hW)
  · replace hF := i_neg b1 hF
    refine en_segs [(11, .aload_n 0, []), (12, .aload_n 0, [])] (by decide +kernel) (y := (13, [some (.ref a0)], [.ref a0, .ref a0], h)) rfl ?_
    refine en_get (by decide +kernel : u_at kl_211 13 = some (.getfield 316, [12, 2])) hW ha0 (by decide) rfl ?_
    obtain ⟨c12_2, hc12_2, hF⟩ := ob_some hF
    refine en_putI (by decide +kernel : u_at kl_211 16 = some (.putfield 189, [12, 11, 0])) hW ha0 rfl (by decide) rfl (fun h hW => ?_)
    have hW : HW (mkw c0 c1 c2 c3 c4 c5 c6 c7 c8 c9 c10 c11 c12_2 c13) d h := by rw [← Option.some.inj hc12_2]; exact hW
    refine en_segs [(19, .aload_n 0, [])] (by decide +kernel) (y := (20, [some (.ref a0)], [.ref a0], h)) rfl ?_
    refine en_get (by decide +kernel : u_at kl_211 20 = some (.getfield 23, [12, 6])) hW ha0 (by decide) rfl ?_
    refine en_segs [(23, .aload_n 0, [])] (by decide +kernel) (y := (24, [some (.ref a0)], [.ref a0, .ref (aP d 12 6 a0)], h)) rfl ?_
    refine en_get (by decide +kernel : u_at kl_211 24 = some (.getfield 189, [12, 11])) hW ha0 (by decide) rfl ?_
    refine en_segs [(27, .iconst 0, [])] (by decide +kernel) (y := (28, [some (.ref a0)], [.int 0, .int (cI c12_2 11 a0), .ref (aP d 12 6 a0)], h)) rfl ?_
    obtain ⟨c12_3, hc12_3, hF⟩ := ob_some hF
    refine en_iast (by decide +kernel : u_at kl_211 28 = some (.iastore, [])) hW ha0 rfl (by decide) hc12_3 (fun h hW => ?_)
    have hW : HW (mkw c0 c1 c2 c3 c4 c5 c6 c7 c8 c9 c10 c11 c12_3 c13) d h := hW
    refine en_segs [(29, .aload_n 0, [])] (by decide +kernel) (y := (30, [some (.ref a0)], [.ref a0], h)) rfl ?_
    obtain ⟨r4, hr4, hF⟩ := ob_some hF
    refine en_vi (r := []) (by decide +kernel : u_at kl_211 30 = some (.invokevirtual 319, [210, 0, 12])) hW ha0 rfl rfl (Nat.le_of_ble_eq_true rfl) (e_210 (D := D) (by omega) hW ha0 hr4) (fun h hW => ?_)
    have hW : HW (mkw c0 c1 c2 c3 c4 c5 c6 c7 c8 c9 c10 c11 r4.2 c13) d h := hW
    refine en_if_ne (by decide +kernel : u_at kl_211 33 = some (.ifCond .ne 11, [44])) (fun b5 => ?_) (fun b5 => ?_)
    · replace hF := i_pos b5 hF
      refine en_segs [(36, .bipush (-2), []), (38, .aload_n 0, [])] (by decide +kernel) (y := (39, [some (.ref a0)], [.ref a0, .int (-2)], h)) rfl ?_
      refine en_get (by decide +kernel : u_at kl_211 39 = some (.getfield 130, [12, 9])) hW ha0 (by decide) rfl ?_
      refine en_segs [(42, .isub, [])] (by decide +kernel) (y := (43, [some (.ref a0)], [.int ((-2) - (cI r4.2 9 a0))], h)) rfl ?_
      obtain rfl := Option.some.inj hF
      exact en_ret (by decide +kernel : u_at kl_211 43 = some (.ireturn, [0])) rfl (hQ _ hW)
    · replace hF := i_neg b5 hF
      refine en_segs [(44, .aload_n 0, []), (45, .dup, [])] (by decide +kernel) (y := (46, [some (.ref a0)], [.ref a0, .ref a0], h)) rfl ?_
      refine en_get (by decide +kernel : u_at kl_211 46 = some (.getfield 316, [12, 2])) hW ha0 (by decide) rfl ?_
      refine en_segs [(49, .iconst 1, []), (50, .iadd, [])] (by decide +kernel) (y := (51, [some (.ref a0)], [.int ((cI r4.2 2 a0) + 1), .ref a0], h)) rfl ?_
      obtain ⟨c12_6, hc12_6, hF⟩ := ob_some hF
      refine en_putI (by decide +kernel : u_at kl_211 51 = some (.putfield 316, [12, 2, 0])) hW ha0 rfl (by decide) rfl (fun h hW => ?_)
      have hW : HW (mkw c0 c1 c2 c3 c4 c5 c6 c7 c8 c9 c10 c11 c12_6 c13) d h := by rw [← Option.some.inj hc12_6]; exact hW
      refine en_segs [(54, .aload_n 0, [])] (by decide +kernel) (y := (55, [some (.ref a0)], [.ref a0], h)) rfl ?_
      refine en_get (by decide +kernel : u_at kl_211 55 = some (.getfield 316, [12, 2])) hW ha0 (by decide) rfl ?_
      refine en_segs [(58, .iconst 1, []), (59, .isub, [])] (by decide +kernel) (y := (60, [some (.ref a0)], [.int ((cI c12_6 2 a0) - 1)], h)) rfl ?_
      obtain rfl := Option.some.inj hF
      exact en_ret (by decide +kernel : u_at kl_211 60 = some (.ireturn, [0])) rfl (hQ _ hW)
def F_223 (c12 : Cl) (a0 : Nat) (p1 : Int32) (p2 : Int32) : Option Int32 :=
  ald (cA c12 20 a0) 221 ((40 + (6 * p1)) + p2) >>= fun v1 =>
  some v1
set_option maxRecDepth 100000 in
set_option maxHeartbeats 4000000 in
/-- HeadCountsModel.headOf -/
theorem e_223 {D : Nat} {c0 c1 c2 c3 c4 c5 c6 c7 c8 c9 c10 c11 c12 c13 : Cl} {d : Ad} {h : UH} {a0 : Nat} {p1 : Int32} {p2 : Int32} {r : Int32} (hD : 1 ≤ D) (hW : HW (mkw c0 c1 c2 c3 c4 c5 c6 c7 c8 c9 c10 c11 c12 c13) d h) (ha0 : aK d a0 = (0, 12, 0)) (hF : F_223 c12 a0 p1 p2 = some r) : ∃ q, EX D 223 [.ref a0, .int p1, .int p2] h q ∧ q.1 = some (.int r) ∧ h = q.2 := by
  obtain ⟨D, rfl⟩ : ∃ E, D = E + 1 := ⟨D - 1, by omega⟩
  unfold F_223 at hF
  refine ex_in (kl := kl_223) (nL := 3) rfl (by decide +kernel) (Nat.le_of_ble_eq_true rfl) ?_
  obtain ⟨QQ, hQQ⟩ : ∃ QQ : UR → Prop, QQ = (fun q : UR => q.1 = some (.int r) ∧ h = q.2) := ⟨_, rfl⟩
  rw [← hQQ]
  have hQ : QQ (some (.int r), h) := by rw [hQQ]; exact ⟨rfl, rfl⟩
  clear hQQ
  show Ends (EX D) (u_at kl_223) (0, [some (.ref a0), some (.int p1), some (.int p2)], [], h) QQ
  refine en_segs [(0, .aload_n 0, [])] (by decide +kernel) (y := (1, [some (.ref a0), some (.int p1), some (.int p2)], [.ref a0], h)) rfl ?_
  refine en_get (by decide +kernel : u_at kl_223 1 = some (.getfield 39, [12, 20])) hW ha0 (by decide) rfl ?_
  refine en_segs [(4, .bipush 40, []), (6, .bipush 6, []), (8, .iload_n 1, []), (9, .imul, []), (10, .iadd, []), (11, .iload_n 2, []), (12, .iadd, [])] (by decide +kernel) (y := (13, [some (.ref a0), some (.int p1), some (.int p2)], [.int ((40 + (6 * p1)) + p2), .ref (aP d 12 20 a0)], h)) rfl ?_
  obtain ⟨v1, hv1, hF⟩ := ob_some hF
  refine en_iald (by decide +kernel : u_at kl_223 13 = some (.iaload, [])) hW ha0 rfl (by decide) hv1 ?_
  obtain rfl := Option.some.inj hF
  exact en_ret (by decide +kernel : u_at kl_223 14 = some (.ireturn, [0])) rfl (hQ)
def F_224 (c12 : Cl) (a0 : Nat) (p1 : Int32) : Option Int32 :=
  F_223 c12 a0 p1 5 >>= fun r1 =>
  ((if 0 ≤ r1 then
  some 0
  else
  some 1) : Option (Int32)) >>= fun (t2 : Int32) =>
  zb t2 >>= fun z4 => some z4
set_option maxRecDepth 100000 in
set_option maxHeartbeats 4000000 in
/-- HeadCountsModel.lives -/
theorem e_224 {D : Nat} {c0 c1 c2 c3 c4 c5 c6 c7 c8 c9 c10 c11 c12 c13 : Cl} {d : Ad} {h : UH} {a0 : Nat} {p1 : Int32} {r : Int32} (hD : 2 ≤ D) (hW : HW (mkw c0 c1 c2 c3 c4 c5 c6 c7 c8 c9 c10 c11 c12 c13) d h) (ha0 : aK d a0 = (0, 12, 0)) (hF : F_224 c12 a0 p1 = some r) : ∃ q, EX D 224 [.ref a0, .int p1] h q ∧ q.1 = some (.int r) ∧ h = q.2 := by
  obtain ⟨D, rfl⟩ : ∃ E, D = E + 1 := ⟨D - 1, by omega⟩
  unfold F_224 at hF
  refine ex_in (kl := kl_224) (nL := 2) rfl (by decide +kernel) (Nat.le_of_ble_eq_true rfl) ?_
  obtain ⟨QQ, hQQ⟩ : ∃ QQ : UR → Prop, QQ = (fun q : UR => q.1 = some (.int r) ∧ h = q.2) := ⟨_, rfl⟩
  rw [← hQQ]
  have hQ : QQ (some (.int r), h) := by rw [hQQ]; exact ⟨rfl, rfl⟩
  clear hQQ
  show Ends (EX D) (u_at kl_224) (0, [some (.ref a0), some (.int p1)], [], h) QQ
  refine en_segs [(0, .aload_n 0, []), (1, .iload_n 1, []), (2, .iconst 5, [])] (by decide +kernel) (y := (3, [some (.ref a0), some (.int p1)], [.int 5, .int p1, .ref a0], h)) rfl ?_
  obtain ⟨r1, hr1, hF⟩ := ob_some hF
  refine en_vi (r := []) (by decide +kernel : u_at kl_224 3 = some (.invokevirtual 343, [223, 2, 12])) hW ha0 rfl rfl (Nat.le_of_ble_eq_true rfl) (e_223 (D := D) (by omega) hW ha0 hr1) (fun h' q => ?_)
  subst q
  obtain ⟨t2, hX, hK⟩ := ob_some hF
  have j3 : Ends (EX D) (u_at kl_224) (14, [some (.ref a0), some (.int p1)], [.int t2], h) QQ := by
    have hF := hK
    obtain ⟨z4, hz4, hF⟩ := ob_some hF
    obtain rfl := Option.some.inj hF
    exact en_retZ (by decide +kernel : u_at kl_224 14 = some (.ireturn, [1])) hz4 (hQ)
  have hF := hX
  refine en_if_ge (by decide +kernel : u_at kl_224 6 = some (.ifCond .ge 7, [13])) (fun b5 => ?_) (fun b5 => ?_)
  · replace hF := i_pos b5 hF
    refine en_segs [(13, .iconst 0, [])] (by decide +kernel) (y := (14, [some (.ref a0), some (.int p1)], [.int 0], h)) rfl ?_
    obtain rfl := Option.some.inj hF
    exact j3
  · replace hF := i_neg b5 hF
    refine en_segs [(9, .iconst 1, []), (10, .goto 4, [14])] (by decide +kernel) (y := (14, [some (.ref a0), some (.int p1)], [.int 1], h)) rfl ?_
    obtain rfl := Option.some.inj hF
    exact j3
def F_225 (c12 : Cl) (a0 : Nat) (p1 : Int32) : Option Int32 :=
  F_224 c12 a0 p1 >>= fun r1 =>
  ((if r1 = 0 then
  ald (cA c12 20 a0) 221 4 >>= fun v6 =>
  F_223 c12 a0 p1 5 >>= fun r7 =>
  if r7 ≤ v6 then
  some 0
  else
  some 1
  else
  some 1) : Option (Int32)) >>= fun (t2 : Int32) =>
  zb t2 >>= fun z4 => some z4
set_option maxRecDepth 100000 in
set_option maxHeartbeats 4000000 in
/-- HeadCountsModel.isCounted -/
theorem e_225 {D : Nat} {c0 c1 c2 c3 c4 c5 c6 c7 c8 c9 c10 c11 c12 c13 : Cl} {d : Ad} {h : UH} {a0 : Nat} {p1 : Int32} {r : Int32} (hD : 3 ≤ D) (hW : HW (mkw c0 c1 c2 c3 c4 c5 c6 c7 c8 c9 c10 c11 c12 c13) d h) (ha0 : aK d a0 = (0, 12, 0)) (hF : F_225 c12 a0 p1 = some r) : ∃ q, EX D 225 [.ref a0, .int p1] h q ∧ q.1 = some (.int r) ∧ h = q.2 := by
  obtain ⟨D, rfl⟩ : ∃ E, D = E + 1 := ⟨D - 1, by omega⟩
  unfold F_225 at hF
  refine ex_in (kl := kl_225) (nL := 2) rfl (by decide +kernel) (Nat.le_of_ble_eq_true rfl) ?_
  obtain ⟨QQ, hQQ⟩ : ∃ QQ : UR → Prop, QQ = (fun q : UR => q.1 = some (.int r) ∧ h = q.2) := ⟨_, rfl⟩
  rw [← hQQ]
  have hQ : QQ (some (.int r), h) := by rw [hQQ]; exact ⟨rfl, rfl⟩
  clear hQQ
  show Ends (EX D) (u_at kl_225) (0, [some (.ref a0), some (.int p1)], [], h) QQ
  refine en_segs [(0, .aload_n 0, []), (1, .iload_n 1, [])] (by decide +kernel) (y := (2, [some (.ref a0), some (.int p1)], [.int p1, .ref a0], h)) rfl ?_
  obtain ⟨r1, hr1, hF⟩ := ob_some hF
  refine en_vi (r := []) (by decide +kernel : u_at kl_225 2 = some (.invokevirtual 346, [224, 1, 12])) hW ha0 rfl rfl (Nat.le_of_ble_eq_true rfl) (e_224 (D := D) (by omega) hW ha0 hr1) (fun h' q => ?_)
  subst q
  obtain ⟨t2, hX, hK⟩ := ob_some hF
  have j3 : Ends (EX D) (u_at kl_225) (28, [some (.ref a0), some (.int p1)], [.int t2], h) QQ := by
    have hF := hK
    obtain ⟨z4, hz4, hF⟩ := ob_some hF
    obtain rfl := Option.some.inj hF
    exact en_retZ (by decide +kernel : u_at kl_225 28 = some (.ireturn, [1])) hz4 (hQ)
  have hF := hX
  refine en_if_ne (by decide +kernel : u_at kl_225 5 = some (.ifCond .ne 18, [23])) (fun b5 => ?_) (fun b5 => ?_)
  · replace hF := i_pos b5 hF
    refine en_segs [(8, .aload_n 0, [])] (by decide +kernel) (y := (9, [some (.ref a0), some (.int p1)], [.ref a0], h)) rfl ?_
    refine en_get (by decide +kernel : u_at kl_225 9 = some (.getfield 39, [12, 20])) hW ha0 (by decide) rfl ?_
    refine en_segs [(12, .iconst 4, [])] (by decide +kernel) (y := (13, [some (.ref a0), some (.int p1)], [.int 4, .ref (aP d 12 20 a0)], h)) rfl ?_
    obtain ⟨v6, hv6, hF⟩ := ob_some hF
    refine en_iald (by decide +kernel : u_at kl_225 13 = some (.iaload, [])) hW ha0 rfl (by decide) hv6 ?_
    refine en_segs [(14, .aload_n 0, []), (15, .iload_n 1, []), (16, .iconst 5, [])] (by decide +kernel) (y := (17, [some (.ref a0), some (.int p1)], [.int 5, .int p1, .ref a0, .int v6], h)) rfl ?_
    obtain ⟨r7, hr7, hF⟩ := ob_some hF
    refine en_vi (r := [.int v6]) (by decide +kernel : u_at kl_225 17 = some (.invokevirtual 343, [223, 2, 12])) hW ha0 rfl rfl (Nat.le_of_ble_eq_true rfl) (e_223 (D := D) (by omega) hW ha0 hr7) (fun h' q => ?_)
    subst q
    refine en_ic_ge (by decide +kernel : u_at kl_225 20 = some (.if_icmp .ge 7, [27])) (fun b8 => ?_) (fun b8 => ?_)
    · replace hF := i_pos b8 hF
      refine en_segs [(27, .iconst 0, [])] (by decide +kernel) (y := (28, [some (.ref a0), some (.int p1)], [.int 0], h)) rfl ?_
      obtain rfl := Option.some.inj hF
      exact j3
    · replace hF := i_neg b8 hF
      refine en_segs [(23, .iconst 1, []), (24, .goto 4, [28])] (by decide +kernel) (y := (28, [some (.ref a0), some (.int p1)], [.int 1], h)) rfl ?_
      obtain rfl := Option.some.inj hF
      exact j3
  · replace hF := i_neg b5 hF
    refine en_segs [(23, .iconst 1, []), (24, .goto 4, [28])] (by decide +kernel) (y := (28, [some (.ref a0), some (.int p1)], [.int 1], h)) rfl ?_
    obtain rfl := Option.some.inj hF
    exact j3
def G_226 (c12 : Cl) (a0 : Nat) (lab : Nat) (xs : List Int32) (ys : List Int64) (zs : List Nat) : Option Int32 := match lab, xs, ys, zs with
  | 0, [x1, x2, x3], [], [] =>
    ald (cA c12 20 a0) 221 2 >>= fun v1 =>
    if v1 ≤ x3 then
    G_226 c12 a0 1 [x1, x2, 0] [] []
    else
    F_225 c12 a0 x3 >>= fun r3 =>
    ((if r3 = 0 then
    some 0
    else
    F_223 c12 a0 x3 0 >>= fun r7 =>
    if r7 = x1 then
    F_223 c12 a0 x3 1 >>= fun r9 =>
    some r9
    else
    some 0) : Option (Int32)) >>= fun (t4 : Int32) =>
    G_226 c12 a0 0 [x1, x2 + t4, x3 + 1] [] []
  | 1, [x1, x2, x3], [], [] =>
    if 6 ≤ x3 then
    some x2
    else
    ald (cA c12 20 a0) 221 ((94 + (3 * x3)) + 2) >>= fun v11 =>
    ald (cA c12 20 a0) 221 4 >>= fun v12 =>
    ((if v11 ≤ v12 then
    some 0
    else
    ald (cA c12 20 a0) 221 (94 + (3 * x3)) >>= fun v16 =>
    if v16 = x1 then
    ald (cA c12 20 a0) 221 ((94 + (3 * x3)) + 1) >>= fun v18 =>
    some v18
    else
    some 0) : Option (Int32)) >>= fun (t13 : Int32) =>
    G_226 c12 a0 1 [x1, x2 + t13, x3 + 1] [] []
  | _, _, _, _ => none
partial_fixpoint
set_option maxRecDepth 100000 in
set_option maxHeartbeats 4000000 in
theorem g_226 {D : Nat} (hD : 4 ≤ D + 1) {c0 c1 c2 c3 c4 c5 c6 c7 c8 c9 c10 c11 c12 c13 : Cl} {d : Ad} {a0 : Nat} (ha0 : aK d a0 = (0, 12, 0)) : ∀ (lab : Nat) (xs : List Int32) (ys : List Int64) (zs : List Nat) (r : Int32), G_226 c12 a0 lab xs ys zs = some r →
    (∀ (x1 : Int32) (x2 : Int32) (x3 : Int32), lab = 0 → xs = [x1, x2, x3] → ys = [] → zs = [] → ∀ h : UH, HW (mkw c0 c1 c2 c3 c4 c5 c6 c7 c8 c9 c10 c11 c12 c13) d h → ∀ QQ : UR → Prop, QQ (some (.int r), h) → Ends (EX D) (u_at kl_226) (4, [some (.ref a0), some (.int x1), some (.int x2), some (.int x3)], [], h) QQ) ∧
    (∀ (x1 : Int32) (x2 : Int32) (x3 : Int32), lab = 1 → xs = [x1, x2, x3] → ys = [] → zs = [] → ∀ h : UH, HW (mkw c0 c1 c2 c3 c4 c5 c6 c7 c8 c9 c10 c11 c12 c13) d h → ∀ QQ : UR → Prop, QQ (some (.int r), h) → Ends (EX D) (u_at kl_226) (53, [some (.ref a0), some (.int x1), some (.int x2), some (.int x3)], [], h) QQ) := by
  refine G_226.partial_correctness _ _ (motive := fun lab xs ys zs r =>
    (∀ (x1 : Int32) (x2 : Int32) (x3 : Int32), lab = 0 → xs = [x1, x2, x3] → ys = [] → zs = [] → ∀ h : UH, HW (mkw c0 c1 c2 c3 c4 c5 c6 c7 c8 c9 c10 c11 c12 c13) d h → ∀ QQ : UR → Prop, QQ (some (.int r), h) → Ends (EX D) (u_at kl_226) (4, [some (.ref a0), some (.int x1), some (.int x2), some (.int x3)], [], h) QQ) ∧
    (∀ (x1 : Int32) (x2 : Int32) (x3 : Int32), lab = 1 → xs = [x1, x2, x3] → ys = [] → zs = [] → ∀ h : UH, HW (mkw c0 c1 c2 c3 c4 c5 c6 c7 c8 c9 c10 c11 c12 c13) d h → ∀ QQ : UR → Prop, QQ (some (.int r), h) → Ends (EX D) (u_at kl_226) (53, [some (.ref a0), some (.int x1), some (.int x2), some (.int x3)], [], h) QQ)) ?_
  intro G ih lab xs ys zs r hF
  refine ⟨?_, ?_⟩
  · intro x1 x2 x3 e1 e2 e3 e4 h hW QQ hQ
    subst e1 e2 e3 e4
    refine en_segs [(4, .iload_n 3, []), (5, .aload_n 0, [])] (by decide +kernel) (y := (6, [some (.ref a0), some (.int x1), some (.int x2), some (.int x3)], [.ref a0, .int x3], h)) rfl ?_
    refine en_get (by decide +kernel : u_at kl_226 6 = some (.getfield 39, [12, 20])) hW ha0 (by decide) rfl ?_
    refine en_segs [(9, .iconst 2, [])] (by decide +kernel) (y := (10, [some (.ref a0), some (.int x1), some (.int x2), some (.int x3)], [.int 2, .ref (aP d 12 20 a0), .int x3], h)) rfl ?_
    obtain ⟨v1, hv1, hF⟩ := ob_some hF
    refine en_iald (by decide +kernel : u_at kl_226 10 = some (.iaload, [])) hW ha0 rfl (by decide) hv1 ?_
    refine en_ic_ge (by decide +kernel : u_at kl_226 11 = some (.if_icmp .ge 40, [51])) (fun b2 => ?_) (fun b2 => ?_)
    · replace hF := i_pos b2 hF
      refine en_segs [(51, .iconst 0, []), (52, .istore_n 3, [])] (by decide +kernel) (y := (53, [some (.ref a0), some (.int x1), some (.int x2), some (.int 0)], [], h)) rfl ?_
      exact (ih _ _ _ _ _ hF).2 _ _ _ rfl rfl rfl rfl  _ hW _ hQ
    · replace hF := i_neg b2 hF
      refine en_segs [(14, .iload_n 2, []), (15, .aload_n 0, []), (16, .iload_n 3, [])] (by decide +kernel) (y := (17, [some (.ref a0), some (.int x1), some (.int x2), some (.int x3)], [.int x3, .ref a0, .int x2], h)) rfl ?_
      obtain ⟨r3, hr3, hF⟩ := ob_some hF
      refine en_vi (r := [.int x2]) (by decide +kernel : u_at kl_226 17 = some (.invokevirtual 349, [225, 1, 12])) hW ha0 rfl rfl (Nat.le_of_ble_eq_true rfl) (e_225 (D := D) (by omega) hW ha0 hr3) (fun h' q => ?_)
      subst q
      obtain ⟨t4, hX, hK⟩ := ob_some hF
      have j5 : Ends (EX D) (u_at kl_226) (43, [some (.ref a0), some (.int x1), some (.int x2), some (.int x3)], [.int t4, .int x2], h) QQ := by
        have hF := hK
        refine en_segs [(43, .iadd, []), (44, .istore_n 2, []), (45, .iinc 3 1, []), (48, .goto (-44), [4])] (by decide +kernel) (y := (4, [some (.ref a0), some (.int x1), some (.int (x2 + t4)), some (.int (x3 + 1))], [], h)) rfl ?_
        exact (ih _ _ _ _ _ hF).1 _ _ _ rfl rfl rfl rfl  _ hW _ hQ
      have hF := hX
      refine en_if_eq (by decide +kernel : u_at kl_226 20 = some (.ifCond .eq 22, [42])) (fun b6 => ?_) (fun b6 => ?_)
      · replace hF := i_pos b6 hF
        refine en_segs [(42, .iconst 0, [])] (by decide +kernel) (y := (43, [some (.ref a0), some (.int x1), some (.int x2), some (.int x3)], [.int 0, .int x2], h)) rfl ?_
        obtain rfl := Option.some.inj hF
        exact j5
      · replace hF := i_neg b6 hF
        refine en_segs [(23, .aload_n 0, []), (24, .iload_n 3, []), (25, .iconst 0, [])] (by decide +kernel) (y := (26, [some (.ref a0), some (.int x1), some (.int x2), some (.int x3)], [.int 0, .int x3, .ref a0, .int x2], h)) rfl ?_
        obtain ⟨r7, hr7, hF⟩ := ob_some hF
        refine en_vi (r := [.int x2]) (by decide +kernel : u_at kl_226 26 = some (.invokevirtual 343, [223, 2, 12])) hW ha0 rfl rfl (Nat.le_of_ble_eq_true rfl) (e_223 (D := D) (by omega) hW ha0 hr7) (fun h' q => ?_)
        subst q
        refine en_segs [(29, .iload_n 1, [])] (by decide +kernel) (y := (30, [some (.ref a0), some (.int x1), some (.int x2), some (.int x3)], [.int x1, .int r7, .int x2], h)) rfl ?_
        refine en_ic_ne (by decide +kernel : u_at kl_226 30 = some (.if_icmp .ne 12, [42])) (fun b8 => ?_) (fun b8 => ?_)
        · replace hF := i_pos b8 hF
          refine en_segs [(33, .aload_n 0, []), (34, .iload_n 3, []), (35, .iconst 1, [])] (by decide +kernel) (y := (36, [some (.ref a0), some (.int x1), some (.int x2), some (.int x3)], [.int 1, .int x3, .ref a0, .int x2], h)) rfl ?_
          obtain ⟨r9, hr9, hF⟩ := ob_some hF
          refine en_vi (r := [.int x2]) (by decide +kernel : u_at kl_226 36 = some (.invokevirtual 343, [223, 2, 12])) hW ha0 rfl rfl (Nat.le_of_ble_eq_true rfl) (e_223 (D := D) (by omega) hW ha0 hr9) (fun h' q => ?_)
          subst q
          refine en_segs [(39, .goto 4, [43])] (by decide +kernel) (y := (43, [some (.ref a0), some (.int x1), some (.int x2), some (.int x3)], [.int r9, .int x2], h)) rfl ?_
          obtain rfl := Option.some.inj hF
          exact j5
        · replace hF := i_neg b8 hF
          refine en_segs [(42, .iconst 0, [])] (by decide +kernel) (y := (43, [some (.ref a0), some (.int x1), some (.int x2), some (.int x3)], [.int 0, .int x2], h)) rfl ?_
          obtain rfl := Option.some.inj hF
          exact j5
  · intro x1 x2 x3 e1 e2 e3 e4 h hW QQ hQ
    subst e1 e2 e3 e4
    refine en_segs [(53, .iload_n 3, []), (54, .bipush 6, [])] (by decide +kernel) (y := (56, [some (.ref a0), some (.int x1), some (.int x2), some (.int x3)], [.int 6, .int x3], h)) rfl ?_
    refine en_ic_ge (by decide +kernel : u_at kl_226 56 = some (.if_icmp .ge 66, [122])) (fun b10 => ?_) (fun b10 => ?_)
    · replace hF := i_pos b10 hF
      refine en_segs [(122, .iload_n 2, [])] (by decide +kernel) (y := (123, [some (.ref a0), some (.int x1), some (.int x2), some (.int x3)], [.int x2], h)) rfl ?_
      obtain rfl := Option.some.inj hF
      exact en_ret (by decide +kernel : u_at kl_226 123 = some (.ireturn, [0])) rfl (hQ)
    · replace hF := i_neg b10 hF
      refine en_segs [(59, .iload_n 2, []), (60, .aload_n 0, [])] (by decide +kernel) (y := (61, [some (.ref a0), some (.int x1), some (.int x2), some (.int x3)], [.ref a0, .int x2], h)) rfl ?_
      refine en_get (by decide +kernel : u_at kl_226 61 = some (.getfield 39, [12, 20])) hW ha0 (by decide) rfl ?_
      refine en_segs [(64, .bipush 94, []), (66, .iconst 3, []), (67, .iload_n 3, []), (68, .imul, []), (69, .iadd, []), (70, .iconst 2, []), (71, .iadd, [])] (by decide +kernel) (y := (72, [some (.ref a0), some (.int x1), some (.int x2), some (.int x3)], [.int ((94 + (3 * x3)) + 2), .ref (aP d 12 20 a0), .int x2], h)) rfl ?_
      obtain ⟨v11, hv11, hF⟩ := ob_some hF
      refine en_iald (by decide +kernel : u_at kl_226 72 = some (.iaload, [])) hW ha0 rfl (by decide) hv11 ?_
      refine en_segs [(73, .aload_n 0, [])] (by decide +kernel) (y := (74, [some (.ref a0), some (.int x1), some (.int x2), some (.int x3)], [.ref a0, .int v11, .int x2], h)) rfl ?_
      refine en_get (by decide +kernel : u_at kl_226 74 = some (.getfield 39, [12, 20])) hW ha0 (by decide) rfl ?_
      refine en_segs [(77, .iconst 4, [])] (by decide +kernel) (y := (78, [some (.ref a0), some (.int x1), some (.int x2), some (.int x3)], [.int 4, .ref (aP d 12 20 a0), .int v11, .int x2], h)) rfl ?_
      obtain ⟨v12, hv12, hF⟩ := ob_some hF
      refine en_iald (by decide +kernel : u_at kl_226 78 = some (.iaload, [])) hW ha0 rfl (by decide) hv12 ?_
      obtain ⟨t13, hX, hK⟩ := ob_some hF
      have j14 : Ends (EX D) (u_at kl_226) (114, [some (.ref a0), some (.int x1), some (.int x2), some (.int x3)], [.int t13, .int x2], h) QQ := by
        have hF := hK
        refine en_segs [(114, .iadd, []), (115, .istore_n 2, []), (116, .iinc 3 1, []), (119, .goto (-66), [53])] (by decide +kernel) (y := (53, [some (.ref a0), some (.int x1), some (.int (x2 + t13)), some (.int (x3 + 1))], [], h)) rfl ?_
        exact (ih _ _ _ _ _ hF).2 _ _ _ rfl rfl rfl rfl  _ hW _ hQ
      have hF := hX
      refine en_ic_le (by decide +kernel : u_at kl_226 79 = some (.if_icmp .le 34, [113])) (fun b15 => ?_) (fun b15 => ?_)
      · replace hF := i_pos b15 hF
        refine en_segs [(113, .iconst 0, [])] (by decide +kernel) (y := (114, [some (.ref a0), some (.int x1), some (.int x2), some (.int x3)], [.int 0, .int x2], h)) rfl ?_
        obtain rfl := Option.some.inj hF
        exact j14
      · replace hF := i_neg b15 hF
        refine en_segs [(82, .aload_n 0, [])] (by decide +kernel) (y := (83, [some (.ref a0), some (.int x1), some (.int x2), some (.int x3)], [.ref a0, .int x2], h)) rfl ?_
        refine en_get (by decide +kernel : u_at kl_226 83 = some (.getfield 39, [12, 20])) hW ha0 (by decide) rfl ?_
        refine en_segs [(86, .bipush 94, []), (88, .iconst 3, []), (89, .iload_n 3, []), (90, .imul, []), (91, .iadd, [])] (by decide +kernel) (y := (92, [some (.ref a0), some (.int x1), some (.int x2), some (.int x3)], [.int (94 + (3 * x3)), .ref (aP d 12 20 a0), .int x2], h)) rfl ?_
        obtain ⟨v16, hv16, hF⟩ := ob_some hF
        refine en_iald (by decide +kernel : u_at kl_226 92 = some (.iaload, [])) hW ha0 rfl (by decide) hv16 ?_
        refine en_segs [(93, .iload_n 1, [])] (by decide +kernel) (y := (94, [some (.ref a0), some (.int x1), some (.int x2), some (.int x3)], [.int x1, .int v16, .int x2], h)) rfl ?_
        refine en_ic_ne (by decide +kernel : u_at kl_226 94 = some (.if_icmp .ne 19, [113])) (fun b17 => ?_) (fun b17 => ?_)
        · replace hF := i_pos b17 hF
          refine en_segs [(97, .aload_n 0, [])] (by decide +kernel) (y := (98, [some (.ref a0), some (.int x1), some (.int x2), some (.int x3)], [.ref a0, .int x2], h)) rfl ?_
          refine en_get (by decide +kernel : u_at kl_226 98 = some (.getfield 39, [12, 20])) hW ha0 (by decide) rfl ?_
          refine en_segs [(101, .bipush 94, []), (103, .iconst 3, []), (104, .iload_n 3, []), (105, .imul, []), (106, .iadd, []), (107, .iconst 1, []), (108, .iadd, [])] (by decide +kernel) (y := (109, [some (.ref a0), some (.int x1), some (.int x2), some (.int x3)], [.int ((94 + (3 * x3)) + 1), .ref (aP d 12 20 a0), .int x2], h)) rfl ?_
          obtain ⟨v18, hv18, hF⟩ := ob_some hF
          refine en_iald (by decide +kernel : u_at kl_226 109 = some (.iaload, [])) hW ha0 rfl (by decide) hv18 ?_
          refine en_segs [(110, .goto 4, [114])] (by decide +kernel) (y := (114, [some (.ref a0), some (.int x1), some (.int x2), some (.int x3)], [.int v18, .int x2], h)) rfl ?_
          obtain rfl := Option.some.inj hF
          exact j14
        · replace hF := i_neg b17 hF
          refine en_segs [(113, .iconst 0, [])] (by decide +kernel) (y := (114, [some (.ref a0), some (.int x1), some (.int x2), some (.int x3)], [.int 0, .int x2], h)) rfl ?_
          obtain rfl := Option.some.inj hF
          exact j14
def F_226 (c12 : Cl) (a0 : Nat) (p1 : Int32) : Option Int32 :=
  G_226 c12 a0 0 [p1, 0, 0] [] []
set_option maxRecDepth 100000 in
set_option maxHeartbeats 4000000 in
/-- HeadCountsModel.countOf -/
theorem e_226 {D : Nat} {c0 c1 c2 c3 c4 c5 c6 c7 c8 c9 c10 c11 c12 c13 : Cl} {d : Ad} {h : UH} {a0 : Nat} {p1 : Int32} {r : Int32} (hD : 4 ≤ D) (hW : HW (mkw c0 c1 c2 c3 c4 c5 c6 c7 c8 c9 c10 c11 c12 c13) d h) (ha0 : aK d a0 = (0, 12, 0)) (hF : F_226 c12 a0 p1 = some r) : ∃ q, EX D 226 [.ref a0, .int p1] h q ∧ q.1 = some (.int r) ∧ h = q.2 := by
  obtain ⟨D, rfl⟩ : ∃ E, D = E + 1 := ⟨D - 1, by omega⟩
  unfold F_226 at hF
  refine ex_in (kl := kl_226) (nL := 4) rfl (by decide +kernel) (Nat.le_of_ble_eq_true rfl) ?_
  obtain ⟨QQ, hQQ⟩ : ∃ QQ : UR → Prop, QQ = (fun q : UR => q.1 = some (.int r) ∧ h = q.2) := ⟨_, rfl⟩
  rw [← hQQ]
  have hQ : QQ (some (.int r), h) := by rw [hQQ]; exact ⟨rfl, rfl⟩
  clear hQQ
  show Ends (EX D) (u_at kl_226) (0, [some (.ref a0), some (.int p1), none, none], [], h) QQ
  refine en_segs [(0, .iconst 0, []), (1, .istore_n 2, []), (2, .iconst 0, []), (3, .istore_n 3, [])] (by decide +kernel) (y := (4, [some (.ref a0), some (.int p1), some (.int 0), some (.int 0)], [], h)) rfl ?_
  exact (g_226 (D := D) hD ha0 _ _ _ _ _ hF).1 _ _ _ rfl rfl rfl rfl  _ hW _ hQ
def G_227 (a0 : Nat) (lab : Nat) (xs : List Int32) (ys : List Int64) (zs : List Nat) (c12 : Cl) : Option Cl := match lab, xs, ys, zs with
  | 0, [x1], [], [] =>
    ald (cA c12 20 a0) 221 0 >>= fun v1 =>
    if v1 ≤ x1 then
    some c12
    else
    ald (cA c12 20 a0) 221 4 >>= fun v3 =>
    irm v3 12 >>= fun v4 =>
    F_226 c12 a0 x1 >>= fun r5 =>
    ast c12 20 a0 221 ((112 + (6 * v4)) + x1) r5 >>= fun c12_6 =>
    G_227 a0 0 [x1 + 1] [] [] c12_6
  | _, _, _, _ => none
partial_fixpoint
set_option maxRecDepth 100000 in
set_option maxHeartbeats 4000000 in
theorem g_227 {D : Nat} (hD : 5 ≤ D + 1) {c0 c1 c2 c3 c4 c5 c6 c7 c8 c9 c10 c11 c13 : Cl} {d : Ad} {a0 : Nat} (ha0 : aK d a0 = (0, 12, 0)) : ∀ (lab : Nat) (xs : List Int32) (ys : List Int64) (zs : List Nat) (c12 : Cl) (r : Cl), G_227 a0 lab xs ys zs c12 = some r →
    (∀ (x1 : Int32), lab = 0 → xs = [x1] → ys = [] → zs = [] → ∀ h : UH, HW (mkw c0 c1 c2 c3 c4 c5 c6 c7 c8 c9 c10 c11 c12 c13) d h → ∀ QQ : UR → Prop, (∀ h' : UH, HW (mkw c0 c1 c2 c3 c4 c5 c6 c7 c8 c9 c10 c11 r c13) d h' → QQ (none, h')) → Ends (EX D) (u_at kl_227) (2, [some (.ref a0), some (.int x1)], [], h) QQ) := by
  refine G_227.partial_correctness _ (motive := fun lab xs ys zs c12 r =>
    (∀ (x1 : Int32), lab = 0 → xs = [x1] → ys = [] → zs = [] → ∀ h : UH, HW (mkw c0 c1 c2 c3 c4 c5 c6 c7 c8 c9 c10 c11 c12 c13) d h → ∀ QQ : UR → Prop, (∀ h' : UH, HW (mkw c0 c1 c2 c3 c4 c5 c6 c7 c8 c9 c10 c11 r c13) d h' → QQ (none, h')) → Ends (EX D) (u_at kl_227) (2, [some (.ref a0), some (.int x1)], [], h) QQ)) ?_
  intro G ih lab xs ys zs c12 r hF
  · intro x1 e1 e2 e3 e4 h hW QQ hQ
    subst e1 e2 e3 e4
    refine en_segs [(2, .iload_n 1, []), (3, .aload_n 0, [])] (by decide +kernel) (y := (4, [some (.ref a0), some (.int x1)], [.ref a0, .int x1], h)) rfl ?_
    refine en_get (by decide +kernel : u_at kl_227 4 = some (.getfield 39, [12, 20])) hW ha0 (by decide) rfl ?_
    refine en_segs [(7, .iconst 0, [])] (by decide +kernel) (y := (8, [some (.ref a0), some (.int x1)], [.int 0, .ref (aP d 12 20 a0), .int x1], h)) rfl ?_
    obtain ⟨v1, hv1, hF⟩ := ob_some hF
    refine en_iald (by decide +kernel : u_at kl_227 8 = some (.iaload, [])) hW ha0 rfl (by decide) hv1 ?_
    refine en_ic_ge (by decide +kernel : u_at kl_227 9 = some (.if_icmp .ge 36, [45])) (fun b2 => ?_) (fun b2 => ?_)
    · replace hF := i_pos b2 hF
      obtain rfl := Option.some.inj hF
      exact en_ret (by decide +kernel : u_at kl_227 45 = some (.return_, [])) rfl (hQ _ hW)
    · replace hF := i_neg b2 hF
      refine en_segs [(12, .aload_n 0, [])] (by decide +kernel) (y := (13, [some (.ref a0), some (.int x1)], [.ref a0], h)) rfl ?_
      refine en_get (by decide +kernel : u_at kl_227 13 = some (.getfield 39, [12, 20])) hW ha0 (by decide) rfl ?_
      refine en_segs [(16, .bipush 112, []), (18, .bipush 6, []), (20, .aload_n 0, [])] (by decide +kernel) (y := (21, [some (.ref a0), some (.int x1)], [.ref a0, .int 6, .int 112, .ref (aP d 12 20 a0)], h)) rfl ?_
      refine en_get (by decide +kernel : u_at kl_227 21 = some (.getfield 39, [12, 20])) hW ha0 (by decide) rfl ?_
      refine en_segs [(24, .iconst 4, [])] (by decide +kernel) (y := (25, [some (.ref a0), some (.int x1)], [.int 4, .ref (aP d 12 20 a0), .int 6, .int 112, .ref (aP d 12 20 a0)], h)) rfl ?_
      obtain ⟨v3, hv3, hF⟩ := ob_some hF
      refine en_iald (by decide +kernel : u_at kl_227 25 = some (.iaload, [])) hW ha0 rfl (by decide) hv3 ?_
      refine en_segs [(26, .bipush 12, [])] (by decide +kernel) (y := (28, [some (.ref a0), some (.int x1)], [.int 12, .int v3, .int 6, .int 112, .ref (aP d 12 20 a0)], h)) rfl ?_
      obtain ⟨v4, hv4, hF⟩ := ob_some hF
      refine en_irem (by decide +kernel : u_at kl_227 28 = some (.irem, [])) hv4 ?_
      refine en_segs [(29, .imul, []), (30, .iadd, []), (31, .iload_n 1, []), (32, .iadd, []), (33, .aload_n 0, []), (34, .iload_n 1, [])] (by decide +kernel) (y := (35, [some (.ref a0), some (.int x1)], [.int x1, .ref a0, .int ((112 + (6 * v4)) + x1), .ref (aP d 12 20 a0)], h)) rfl ?_
      obtain ⟨r5, hr5, hF⟩ := ob_some hF
      refine en_vi (r := [.int ((112 + (6 * v4)) + x1), .ref (aP d 12 20 a0)]) (by decide +kernel : u_at kl_227 35 = some (.invokevirtual 352, [226, 1, 12])) hW ha0 rfl rfl (Nat.le_of_ble_eq_true rfl) (e_226 (D := D) (by omega) hW ha0 hr5) (fun h' q => ?_)
      subst q
      obtain ⟨c12_6, hc12_6, hF⟩ := ob_some hF
      refine en_iast (by decide +kernel : u_at kl_227 38 = some (.iastore, [])) hW ha0 rfl (by decide) hc12_6 (fun h hW => ?_)
      have hW : HW (mkw c0 c1 c2 c3 c4 c5 c6 c7 c8 c9 c10 c11 c12_6 c13) d h := hW
      refine en_segs [(39, .iinc 1 1, []), (42, .goto (-40), [2])] (by decide +kernel) (y := (2, [some (.ref a0), some (.int (x1 + 1))], [], h)) rfl ?_
      exact (ih _ _ _ _ _ _ hF) _ rfl rfl rfl rfl  _ hW _ hQ
def F_227 (c12 : Cl) (a0 : Nat) : Option Cl :=
  G_227 a0 0 [0] [] [] c12
set_option maxRecDepth 100000 in
set_option maxHeartbeats 4000000 in
/-- HeadCountsModel.keepsCounts -/
theorem e_227 {D : Nat} {c0 c1 c2 c3 c4 c5 c6 c7 c8 c9 c10 c11 c12 c13 : Cl} {d : Ad} {h : UH} {a0 : Nat} {r : Cl} (hD : 5 ≤ D) (hW : HW (mkw c0 c1 c2 c3 c4 c5 c6 c7 c8 c9 c10 c11 c12 c13) d h) (ha0 : aK d a0 = (0, 12, 0)) (hF : F_227 c12 a0 = some r) : ∃ q, EX D 227 [.ref a0] h q ∧ q.1 = none ∧ HW (mkw c0 c1 c2 c3 c4 c5 c6 c7 c8 c9 c10 c11 r c13) d q.2 := by
  obtain ⟨D, rfl⟩ : ∃ E, D = E + 1 := ⟨D - 1, by omega⟩
  unfold F_227 at hF
  refine ex_in (kl := kl_227) (nL := 2) rfl (by decide +kernel) (Nat.le_of_ble_eq_true rfl) ?_
  obtain ⟨QQ, hQQ⟩ : ∃ QQ : UR → Prop, QQ = (fun q : UR => q.1 = none ∧ HW (mkw c0 c1 c2 c3 c4 c5 c6 c7 c8 c9 c10 c11 r c13) d q.2) := ⟨_, rfl⟩
  rw [← hQQ]
  have hQ : ∀ h' : UH, HW (mkw c0 c1 c2 c3 c4 c5 c6 c7 c8 c9 c10 c11 r c13) d h' → QQ (none, h') := fun h' p => by rw [hQQ]; exact ⟨rfl, p⟩
  clear hQQ
  show Ends (EX D) (u_at kl_227) (0, [some (.ref a0), none], [], h) QQ
  refine en_segs [(0, .iconst 0, []), (1, .istore_n 1, [])] (by decide +kernel) (y := (2, [some (.ref a0), some (.int 0)], [], h)) rfl ?_
  exact (g_227 (D := D) hD ha0 _ _ _ _ _ _ hF) _ rfl rfl rfl rfl  _ hW _ hQ
