def G_52 (c1 : Cl) (a0 : Nat) (a1 : Nat) (lab : Nat) (xs : List Int32) (ys : List Int64) (zs : List Nat) (c6 : Cl) : Option Cl := match lab, xs, ys, zs with
  | 0, [x2], [], [] =>
    if (cI c1 3 a1) ≤ x2 then
    some c6
    else
    G_52 c1 a0 a1 1 [x2, 0] [] [] c6
  | 1, [x2, x3], [], [] =>
    if (cI c6 0 a0) ≤ x3 then
    G_52 c1 a0 a1 0 [x2 + 1] [] [] c6
    else
    ald (cA c1 11 a1) 6 x2 >>= fun v4 =>
    ((if ((v4 >>> (x3 &&& 31)) &&& 1) = 1 then
    ldl (cB c6 9 a0) 6 x3 >>= fun v8 =>
    stl c6 9 a0 6 x3 (v8 + (1 <<< ((8 * x2 : Int32).toInt64 &&& 63))) >>= fun c6_9 =>
    some c6_9
    else
    some c6) : Option (Cl)) >>= fun (t5 : Cl) =>
    G_52 c1 a0 a1 1 [x2, x3 + 1] [] [] t5
  | _, _, _, _ => none
partial_fixpoint
set_option maxRecDepth 100000 in
set_option maxHeartbeats 4000000 in
theorem g_52 {D : Nat} (hD : 2 ≤ D + 1) {c0 c1 c2 c3 c4 c5 c7 c8 c9 c10 c11 c12 c13 : Cl} {d : Ad} {a0 : Nat} {a1 : Nat} (ha0 : aK d a0 = (0, 6, 0)) (ha1 : aK d a1 = (0, 1, 0)) : ∀ (lab : Nat) (xs : List Int32) (ys : List Int64) (zs : List Nat) (c6 : Cl) (r : Cl), G_52 c1 a0 a1 lab xs ys zs c6 = some r →
    (∀ (x2 : Int32), lab = 0 → xs = [x2] → ys = [] → zs = [] → ∀ h : UH, HW (mkw c0 c1 c2 c3 c4 c5 c6 c7 c8 c9 c10 c11 c12 c13) d h → ∀ QQ : UR → Prop, (∀ h' : UH, HW (mkw c0 c1 c2 c3 c4 c5 r c7 c8 c9 c10 c11 c12 c13) d h' → QQ (none, h')) → Ends (EX D) (u_at kl_52) (10, [some (.ref a0), some (.ref a1), some (.int x2), none], [], h) QQ) ∧
    (∀ (x2 : Int32) (x3 : Int32), lab = 1 → xs = [x2, x3] → ys = [] → zs = [] → ∀ h : UH, HW (mkw c0 c1 c2 c3 c4 c5 c6 c7 c8 c9 c10 c11 c12 c13) d h → ∀ QQ : UR → Prop, (∀ h' : UH, HW (mkw c0 c1 c2 c3 c4 c5 r c7 c8 c9 c10 c11 c12 c13) d h' → QQ (none, h')) → Ends (EX D) (u_at kl_52) (20, [some (.ref a0), some (.ref a1), some (.int x2), some (.int x3)], [], h) QQ) := by
  refine G_52.partial_correctness _ _ _ (motive := fun lab xs ys zs c6 r =>
    (∀ (x2 : Int32), lab = 0 → xs = [x2] → ys = [] → zs = [] → ∀ h : UH, HW (mkw c0 c1 c2 c3 c4 c5 c6 c7 c8 c9 c10 c11 c12 c13) d h → ∀ QQ : UR → Prop, (∀ h' : UH, HW (mkw c0 c1 c2 c3 c4 c5 r c7 c8 c9 c10 c11 c12 c13) d h' → QQ (none, h')) → Ends (EX D) (u_at kl_52) (10, [some (.ref a0), some (.ref a1), some (.int x2), none], [], h) QQ) ∧
    (∀ (x2 : Int32) (x3 : Int32), lab = 1 → xs = [x2, x3] → ys = [] → zs = [] → ∀ h : UH, HW (mkw c0 c1 c2 c3 c4 c5 c6 c7 c8 c9 c10 c11 c12 c13) d h → ∀ QQ : UR → Prop, (∀ h' : UH, HW (mkw c0 c1 c2 c3 c4 c5 r c7 c8 c9 c10 c11 c12 c13) d h' → QQ (none, h')) → Ends (EX D) (u_at kl_52) (20, [some (.ref a0), some (.ref a1), some (.int x2), some (.int x3)], [], h) QQ)) ?_
  intro G ih lab xs ys zs c6 r hF
  refine ⟨?_, ?_⟩
  · intro x2 e1 e2 e3 e4 h hW QQ hQ
    subst e1 e2 e3 e4
    refine en_segs [(10, .iload_n 2, []), (11, .aload_n 1, [])] (by decide +kernel) (y := (12, [some (.ref a0), some (.ref a1), some (.int x2), none], [.ref a1, .int x2], h)) rfl ?_
    refine en_get (by decide +kernel : u_at kl_52 12 = some (.getfield 100, [1, 3])) hW ha1 (by decide) rfl ?_
    refine en_ic_ge (by decide +kernel : u_at kl_52 15 = some (.if_icmp .ge 54, [69])) (fun b2 => ?_) (fun b2 => ?_)
    · replace hF := i_pos b2 hF
      obtain rfl := Option.some.inj hF
      exact en_ret (by decide +kernel : u_at kl_52 69 = some (.return_, [])) rfl (hQ _ hW)
    · replace hF := i_neg b2 hF
      refine en_segs [(18, .iconst 0, []), (19, .istore_n 3, [])] (by decide +kernel) (y := (20, [some (.ref a0), some (.ref a1), some (.int x2), some (.int 0)], [], h)) rfl ?_
      exact (ih _ _ _ _ _ _ hF).2 _ _ rfl rfl rfl rfl  _ hW _ hQ
  · intro x2 x3 e1 e2 e3 e4 h hW QQ hQ
    subst e1 e2 e3 e4
    refine en_segs [(20, .iload_n 3, []), (21, .aload_n 0, [])] (by decide +kernel) (y := (22, [some (.ref a0), some (.ref a1), some (.int x2), some (.int x3)], [.ref a0, .int x3], h)) rfl ?_
    refine en_get (by decide +kernel : u_at kl_52 22 = some (.getfield 61, [6, 0])) hW ha0 (by decide) rfl ?_
    refine en_ic_ge (by decide +kernel : u_at kl_52 25 = some (.if_icmp .ge 38, [63])) (fun b3 => ?_) (fun b3 => ?_)
    · replace hF := i_pos b3 hF
      refine en_segs [(63, .iinc 2 1, []), (66, .goto (-56), [10])] (by decide +kernel) (y := (10, [some (.ref a0), some (.ref a1), some (.int (x2 + 1)), some (.int x3)], [], h)) rfl ?_
      refine en_fg (fg_k (fg_k (fg_k (fg_d fg_0)))) ?_
      exact (ih _ _ _ _ _ _ hF).1 _ rfl rfl rfl rfl  _ hW _ hQ
    · replace hF := i_neg b3 hF
      refine en_segs [(28, .aload_n 1, [])] (by decide +kernel) (y := (29, [some (.ref a0), some (.ref a1), some (.int x2), some (.int x3)], [.ref a1], h)) rfl ?_
      refine en_get (by decide +kernel : u_at kl_52 29 = some (.getfield 103, [1, 11])) hW ha1 (by decide) rfl ?_
      refine en_segs [(32, .iload_n 2, [])] (by decide +kernel) (y := (33, [some (.ref a0), some (.ref a1), some (.int x2), some (.int x3)], [.int x2, .ref (aP d 1 11 a1)], h)) rfl ?_
      obtain ⟨v4, hv4, hF⟩ := ob_some hF
      refine en_iald (by decide +kernel : u_at kl_52 33 = some (.iaload, [])) hW ha1 rfl (by decide) hv4 ?_
      refine en_segs [(34, .iload_n 3, []), (35, .ishr, []), (36, .iconst 1, []), (37, .iand, []), (38, .iconst 1, [])] (by decide +kernel) (y := (39, [some (.ref a0), some (.ref a1), some (.int x2), some (.int x3)], [.int 1, .int ((v4 >>> (x3 &&& 31)) &&& 1)], h)) rfl ?_
      obtain ⟨t5, hX, hK⟩ := ob_some hF
      have j6 : ∀ h : UH, HW (mkw c0 c1 c2 c3 c4 c5 t5 c7 c8 c9 c10 c11 c12 c13) d h → Ends (EX D) (u_at kl_52) (57, [some (.ref a0), some (.ref a1), some (.int x2), some (.int x3)], [], h) QQ := by
        intro h hW
        have hF := hK
        refine en_segs [(57, .iinc 3 1, []), (60, .goto (-40), [20])] (by decide +kernel) (y := (20, [some (.ref a0), some (.ref a1), some (.int x2), some (.int (x3 + 1))], [], h)) rfl ?_
        exact (ih _ _ _ _ _ _ hF).2 _ _ rfl rfl rfl rfl  _ hW _ hQ
      have hF := hX
      refine en_ic_ne (by decide +kernel : u_at kl_52 39 = some (.if_icmp .ne 18, [57])) (fun b7 => ?_) (fun b7 => ?_)
      · replace hF := i_pos b7 hF
        refine en_segs [(42, .aload_n 0, [])] (by decide +kernel) (y := (43, [some (.ref a0), some (.ref a1), some (.int x2), some (.int x3)], [.ref a0], h)) rfl ?_
        refine en_get (by decide +kernel : u_at kl_52 43 = some (.getfield 27, [6, 9])) hW ha0 (by decide) rfl ?_
        refine en_segs [(46, .iload_n 3, []), (47, .dup2, [])] (by decide +kernel) (y := (48, [some (.ref a0), some (.ref a1), some (.int x2), some (.int x3)], [.int x3, .ref (aP d 6 9 a0), .int x3, .ref (aP d 6 9 a0)], h)) rfl ?_
        obtain ⟨v8, hv8, hF⟩ := ob_some hF
        refine en_lald (by decide +kernel : u_at kl_52 48 = some (.laload, [])) hW ha0 rfl (by decide) hv8 ?_
        refine en_segs [(49, .lconst 1, []), (50, .bipush 8, []), (52, .iload_n 2, []), (53, .imul, []), (54, .lshl, []), (55, .ladd, [])] (by decide +kernel) (y := (56, [some (.ref a0), some (.ref a1), some (.int x2), some (.int x3)], [.long (v8 + (1 <<< ((8 * x2 : Int32).toInt64 &&& 63))), .int x3, .ref (aP d 6 9 a0)], h)) rfl ?_
        obtain ⟨c6_9, hc6_9, hF⟩ := ob_some hF
        refine en_last (by decide +kernel : u_at kl_52 56 = some (.lastore, [])) hW ha0 rfl (by decide) hc6_9 (fun h hW => ?_)
        have hW : HW (mkw c0 c1 c2 c3 c4 c5 c6_9 c7 c8 c9 c10 c11 c12 c13) d h := hW
        obtain rfl := Option.some.inj hF
        exact j6 _ hW
      · replace hF := i_neg b7 hF
        obtain rfl := Option.some.inj hF
        exact j6 _ hW
def F_52 (c1 : Cl) (c6 : Cl) (a0 : Nat) (a1 : Nat) : Option Cl :=
  some (sB c6 9 a0 (filf 6 0 (cB c6 9 a0))) >>= fun c6_1 =>
  G_52 c1 a0 a1 0 [0] [] [] c6_1
set_option maxRecDepth 100000 in
set_option maxHeartbeats 4000000 in
/-- HeadCounts$Scene.weighRooms -/
theorem e_52 {D : Nat} {c0 c1 c2 c3 c4 c5 c6 c7 c8 c9 c10 c11 c12 c13 : Cl} {d : Ad} {h : UH} {a0 : Nat} {a1 : Nat} {r : Cl} (hD : 2 ≤ D) (hW : HW (mkw c0 c1 c2 c3 c4 c5 c6 c7 c8 c9 c10 c11 c12 c13) d h) (ha0 : aK d a0 = (0, 6, 0)) (ha1 : aK d a1 = (0, 1, 0)) (hF : F_52 c1 c6 a0 a1 = some r) : ∃ q, EX D 52 [.ref a0, .ref a1] h q ∧ q.1 = none ∧ HW (mkw c0 c1 c2 c3 c4 c5 r c7 c8 c9 c10 c11 c12 c13) d q.2 := by
  obtain ⟨D, rfl⟩ : ∃ E, D = E + 1 := ⟨D - 1, by omega⟩
  unfold F_52 at hF
  refine ex_in (kl := kl_52) (nL := 4) rfl (by decide +kernel) (Nat.le_of_ble_eq_true rfl) ?_
  obtain ⟨QQ, hQQ⟩ : ∃ QQ : UR → Prop, QQ = (fun q : UR => q.1 = none ∧ HW (mkw c0 c1 c2 c3 c4 c5 r c7 c8 c9 c10 c11 c12 c13) d q.2) := ⟨_, rfl⟩
  rw [← hQQ]
  have hQ : ∀ h' : UH, HW (mkw c0 c1 c2 c3 c4 c5 r c7 c8 c9 c10 c11 c12 c13) d h' → QQ (none, h') := fun h' p => by rw [hQQ]; exact ⟨rfl, p⟩
  clear hQQ
  show Ends (EX D) (u_at kl_52) (0, [some (.ref a0), some (.ref a1), none, none], [], h) QQ
  refine en_segs [(0, .aload_n 0, [])] (by decide +kernel) (y := (1, [some (.ref a0), some (.ref a1), none, none], [.ref a0], h)) rfl ?_
  refine en_get (by decide +kernel : u_at kl_52 1 = some (.getfield 27, [6, 9])) hW ha0 (by decide) rfl ?_
  refine en_segs [(4, .lconst 0, [])] (by decide +kernel) (y := (5, [some (.ref a0), some (.ref a1), none, none], [.long 0, .ref (aP d 6 9 a0)], h)) rfl ?_
  obtain ⟨c6_1, hc6_1, hF⟩ := ob_some hF
  refine en_sv (r := []) (by decide +kernel : u_at kl_52 5 = some (.invokestatic 94, [303, 2])) rfl rfl (Nat.le_of_ble_eq_true rfl) (e_fillL (D := D) (v := 0) (by omega) hW ha0 rfl (by decide)) (fun h hW => ?_)
  have hW : HW (mkw c0 c1 c2 c3 c4 c5 c6_1 c7 c8 c9 c10 c11 c12 c13) d h := by rw [← Option.some.inj hc6_1]; exact hW
  refine en_segs [(8, .iconst 0, []), (9, .istore_n 2, [])] (by decide +kernel) (y := (10, [some (.ref a0), some (.ref a1), some (.int 0), none], [], h)) rfl ?_
  exact (g_52 (D := D) hD ha0 ha1 _ _ _ _ _ _ hF).1 _ rfl rfl rfl rfl  _ hW _ hQ
def F_83 (c8 : Cl) (a0 : Nat) (p1 : Int32) : Option Int32 :=
  ald (cA c8 7 a0) 6 p1 >>= fun v1 =>
  ((if v1 = 1000000 then
  some 1
  else
  some 0) : Option (Int32)) >>= fun (t2 : Int32) =>
  zb t2 >>= fun z4 => some z4
set_option maxRecDepth 100000 in
set_option maxHeartbeats 4000000 in
/-- HeadCounts$State.isAlive -/
theorem e_83 {D : Nat} {c0 c1 c2 c3 c4 c5 c6 c7 c8 c9 c10 c11 c12 c13 : Cl} {d : Ad} {h : UH} {a0 : Nat} {p1 : Int32} {r : Int32} (hD : 1 ≤ D) (hW : HW (mkw c0 c1 c2 c3 c4 c5 c6 c7 c8 c9 c10 c11 c12 c13) d h) (ha0 : aK d a0 = (0, 8, 0)) (hF : F_83 c8 a0 p1 = some r) : ∃ q, EX D 83 [.ref a0, .int p1] h q ∧ q.1 = some (.int r) ∧ h = q.2 := by
  obtain ⟨D, rfl⟩ : ∃ E, D = E + 1 := ⟨D - 1, by omega⟩
  unfold F_83 at hF
  refine ex_in (kl := kl_83) (nL := 2) rfl (by decide +kernel) (Nat.le_of_ble_eq_true rfl) ?_
  obtain ⟨QQ, hQQ⟩ : ∃ QQ : UR → Prop, QQ = (fun q : UR => q.1 = some (.int r) ∧ h = q.2) := ⟨_, rfl⟩
  rw [← hQQ]
  have hQ : QQ (some (.int r), h) := by rw [hQQ]; exact ⟨rfl, rfl⟩
  clear hQQ
  show Ends (EX D) (u_at kl_83) (0, [some (.ref a0), some (.int p1)], [], h) QQ
  refine en_segs [(0, .aload_n 0, [])] (by decide +kernel) (y := (1, [some (.ref a0), some (.int p1)], [.ref a0], h)) rfl ?_
  refine en_get (by decide +kernel : u_at kl_83 1 = some (.getfield 21, [8, 7])) hW ha0 (by decide) rfl ?_
  refine en_segs [(4, .iload_n 1, [])] (by decide +kernel) (y := (5, [some (.ref a0), some (.int p1)], [.int p1, .ref (aP d 8 7 a0)], h)) rfl ?_
  obtain ⟨v1, hv1, hF⟩ := ob_some hF
  refine en_iald (by decide +kernel : u_at kl_83 5 = some (.iaload, [])) hW ha0 rfl (by decide) hv1 ?_
  refine en_segs [(6, .ldc 76, [1000000])] (by decide +kernel) (y := (8, [some (.ref a0), some (.int p1)], [.int 1000000, .int v1], h)) rfl ?_
  obtain ⟨t2, hX, hK⟩ := ob_some hF
  have j3 : Ends (EX D) (u_at kl_83) (16, [some (.ref a0), some (.int p1)], [.int t2], h) QQ := by
    have hF := hK
    obtain ⟨z4, hz4, hF⟩ := ob_some hF
    obtain rfl := Option.some.inj hF
    exact en_retZ (by decide +kernel : u_at kl_83 16 = some (.ireturn, [1])) hz4 (hQ)
  have hF := hX
  refine en_ic_ne (by decide +kernel : u_at kl_83 8 = some (.if_icmp .ne 7, [15])) (fun b5 => ?_) (fun b5 => ?_)
  · replace hF := i_pos b5 hF
    refine en_segs [(11, .iconst 1, []), (12, .goto 4, [16])] (by decide +kernel) (y := (16, [some (.ref a0), some (.int p1)], [.int 1], h)) rfl ?_
    obtain rfl := Option.some.inj hF
    exact j3
  · replace hF := i_neg b5 hF
    refine en_segs [(15, .iconst 0, [])] (by decide +kernel) (y := (16, [some (.ref a0), some (.int p1)], [.int 0], h)) rfl ?_
    obtain rfl := Option.some.inj hF
    exact j3
def G_57 (a0 : Nat) (lab : Nat) (xs : List Int32) (ys : List Int64) (zs : List Nat) (c6 : Cl) : Option Cl := match lab, xs, ys, zs with
  | 0, [x2, x3], [], [] =>
    if x3 < 0 then
    some c6
    else
    if (cI c6 0 a0) ≤ 0 then
    some c6
    else
    irm x2 (cI c6 0 a0) >>= fun v4 =>
    idv x2 (cI c6 0 a0) >>= fun v5 =>
    ast c6 10 a0 6 x3 v4 >>= fun c6_6 =>
    ald (cA c6_6 11 a0) 6 v4 >>= fun v7 =>
    ald (cA c6_6 5 a0) 6 x3 >>= fun v8 =>
    ast c6_6 11 a0 6 v4 (v7 + v8) >>= fun c6_9 =>
    G_57 a0 0 [v5, x3 + (-1)] [] [] c6_9
  | _, _, _, _ => none
partial_fixpoint
set_option maxRecDepth 100000 in
set_option maxHeartbeats 4000000 in
theorem g_57 {D : Nat} (hD : 2 ≤ D + 1) {c0 c1 c2 c3 c4 c5 c7 c8 c9 c10 c11 c12 c13 : Cl} {d : Ad} {a0 : Nat} (ha0 : aK d a0 = (0, 6, 0)) : ∀ (lab : Nat) (xs : List Int32) (ys : List Int64) (zs : List Nat) (c6 : Cl) (r : Cl), G_57 a0 lab xs ys zs c6 = some r →
    (∀ (x2 : Int32) (x3 : Int32), lab = 0 → xs = [x2, x3] → ys = [] → zs = [] → ∀ h : UH, HW (mkw c0 c1 c2 c3 c4 c5 c6 c7 c8 c9 c10 c11 c12 c13) d h → ∀ QQ : UR → Prop, (∀ h' : UH, HW (mkw c0 c1 c2 c3 c4 c5 r c7 c8 c9 c10 c11 c12 c13) d h' → QQ (none, h')) → Ends (EX D) (u_at kl_57) (17, [some (.ref a0), none, some (.int x2), some (.int x3), none], [], h) QQ) := by
  refine G_57.partial_correctness _ (motive := fun lab xs ys zs c6 r =>
    (∀ (x2 : Int32) (x3 : Int32), lab = 0 → xs = [x2, x3] → ys = [] → zs = [] → ∀ h : UH, HW (mkw c0 c1 c2 c3 c4 c5 c6 c7 c8 c9 c10 c11 c12 c13) d h → ∀ QQ : UR → Prop, (∀ h' : UH, HW (mkw c0 c1 c2 c3 c4 c5 r c7 c8 c9 c10 c11 c12 c13) d h' → QQ (none, h')) → Ends (EX D) (u_at kl_57) (17, [some (.ref a0), none, some (.int x2), some (.int x3), none], [], h) QQ)) ?_
  intro G ih lab xs ys zs c6 r hF
  · intro x2 x3 e1 e2 e3 e4 h hW QQ hQ
    subst e1 e2 e3 e4
    refine en_segs [(17, .iload_n 3, [])] (by decide +kernel) (y := (18, [some (.ref a0), none, some (.int x2), some (.int x3), none], [.int x3], h)) rfl ?_
    refine en_if_lt (by decide +kernel : u_at kl_57 18 = some (.ifCond .lt 55, [73])) (fun b2 => ?_) (fun b2 => ?_)
    · replace hF := i_pos b2 hF
      obtain rfl := Option.some.inj hF
      exact en_ret (by decide +kernel : u_at kl_57 73 = some (.return_, [])) rfl (hQ _ hW)
    · replace hF := i_neg b2 hF
      refine en_segs [(21, .aload_n 0, [])] (by decide +kernel) (y := (22, [some (.ref a0), none, some (.int x2), some (.int x3), none], [.ref a0], h)) rfl ?_
      refine en_get (by decide +kernel : u_at kl_57 22 = some (.getfield 61, [6, 0])) hW ha0 (by decide) rfl ?_
      refine en_if_le (by decide +kernel : u_at kl_57 25 = some (.ifCond .le 48, [73])) (fun b3 => ?_) (fun b3 => ?_)
      · replace hF := i_pos b3 hF
        obtain rfl := Option.some.inj hF
        exact en_ret (by decide +kernel : u_at kl_57 73 = some (.return_, [])) rfl (hQ _ hW)
      · replace hF := i_neg b3 hF
        refine en_segs [(28, .iload_n 2, []), (29, .aload_n 0, [])] (by decide +kernel) (y := (30, [some (.ref a0), none, some (.int x2), some (.int x3), none], [.ref a0, .int x2], h)) rfl ?_
        refine en_get (by decide +kernel : u_at kl_57 30 = some (.getfield 61, [6, 0])) hW ha0 (by decide) rfl ?_
        obtain ⟨v4, hv4, hF⟩ := ob_some hF
        refine en_irem (by decide +kernel : u_at kl_57 33 = some (.irem, [])) hv4 ?_
        refine en_segs [(34, .istore 4, []), (36, .iload_n 2, []), (37, .aload_n 0, [])] (by decide +kernel) (y := (38, [some (.ref a0), none, some (.int x2), some (.int x3), some (.int v4)], [.ref a0, .int x2], h)) rfl ?_
        refine en_get (by decide +kernel : u_at kl_57 38 = some (.getfield 61, [6, 0])) hW ha0 (by decide) rfl ?_
        obtain ⟨v5, hv5, hF⟩ := ob_some hF
        refine en_idiv (by decide +kernel : u_at kl_57 41 = some (.idiv, [])) hv5 ?_
        refine en_segs [(42, .istore_n 2, []), (43, .aload_n 0, [])] (by decide +kernel) (y := (44, [some (.ref a0), none, some (.int v5), some (.int x3), some (.int v4)], [.ref a0], h)) rfl ?_
        refine en_get (by decide +kernel : u_at kl_57 44 = some (.getfield 31, [6, 10])) hW ha0 (by decide) rfl ?_
        refine en_segs [(47, .iload_n 3, []), (48, .iload 4, [])] (by decide +kernel) (y := (50, [some (.ref a0), none, some (.int v5), some (.int x3), some (.int v4)], [.int v4, .int x3, .ref (aP d 6 10 a0)], h)) rfl ?_
        obtain ⟨c6_6, hc6_6, hF⟩ := ob_some hF
        refine en_iast (by decide +kernel : u_at kl_57 50 = some (.iastore, [])) hW ha0 rfl (by decide) hc6_6 (fun h hW => ?_)
        have hW : HW (mkw c0 c1 c2 c3 c4 c5 c6_6 c7 c8 c9 c10 c11 c12 c13) d h := hW
        refine en_segs [(51, .aload_n 0, [])] (by decide +kernel) (y := (52, [some (.ref a0), none, some (.int v5), some (.int x3), some (.int v4)], [.ref a0], h)) rfl ?_
        refine en_get (by decide +kernel : u_at kl_57 52 = some (.getfield 34, [6, 11])) hW ha0 (by decide) rfl ?_
        refine en_segs [(55, .iload 4, []), (57, .dup2, [])] (by decide +kernel) (y := (58, [some (.ref a0), none, some (.int v5), some (.int x3), some (.int v4)], [.int v4, .ref (aP d 6 11 a0), .int v4, .ref (aP d 6 11 a0)], h)) rfl ?_
        obtain ⟨v7, hv7, hF⟩ := ob_some hF
        refine en_iald (by decide +kernel : u_at kl_57 58 = some (.iaload, [])) hW ha0 rfl (by decide) hv7 ?_
        refine en_segs [(59, .aload_n 0, [])] (by decide +kernel) (y := (60, [some (.ref a0), none, some (.int v5), some (.int x3), some (.int v4)], [.ref a0, .int v7, .int v4, .ref (aP d 6 11 a0)], h)) rfl ?_
        refine en_get (by decide +kernel : u_at kl_57 60 = some (.getfield 15, [6, 5])) hW ha0 (by decide) rfl ?_
        refine en_segs [(63, .iload_n 3, [])] (by decide +kernel) (y := (64, [some (.ref a0), none, some (.int v5), some (.int x3), some (.int v4)], [.int x3, .ref (aP d 6 5 a0), .int v7, .int v4, .ref (aP d 6 11 a0)], h)) rfl ?_
        obtain ⟨v8, hv8, hF⟩ := ob_some hF
        refine en_iald (by decide +kernel : u_at kl_57 64 = some (.iaload, [])) hW ha0 rfl (by decide) hv8 ?_
        refine en_segs [(65, .iadd, [])] (by decide +kernel) (y := (66, [some (.ref a0), none, some (.int v5), some (.int x3), some (.int v4)], [.int (v7 + v8), .int v4, .ref (aP d 6 11 a0)], h)) rfl ?_
        obtain ⟨c6_9, hc6_9, hF⟩ := ob_some hF
        refine en_iast (by decide +kernel : u_at kl_57 66 = some (.iastore, [])) hW ha0 rfl (by decide) hc6_9 (fun h hW => ?_)
        have hW : HW (mkw c0 c1 c2 c3 c4 c5 c6_9 c7 c8 c9 c10 c11 c12 c13) d h := hW
        refine en_segs [(67, .iinc 3 (-1), []), (70, .goto (-53), [17])] (by decide +kernel) (y := (17, [some (.ref a0), none, some (.int v5), some (.int (x3 + (-1))), some (.int v4)], [], h)) rfl ?_
        refine en_fg (fg_k (fg_k (fg_k (fg_k (fg_d fg_0))))) ?_
        exact (ih _ _ _ _ _ _ hF) _ _ rfl rfl rfl rfl  _ hW _ hQ
def F_57 (c6 : Cl) (a0 : Nat) (p1 : Int32) : Option Cl :=
  some (sA c6 11 a0 (filf 6 0 (cA c6 11 a0))) >>= fun c6_1 =>
  G_57 a0 0 [p1, (cI c6_1 1 a0) - 1] [] [] c6_1
set_option maxRecDepth 100000 in
set_option maxHeartbeats 4000000 in
/-- HeadCounts$Scene.unfold -/
theorem e_57 {D : Nat} {c0 c1 c2 c3 c4 c5 c6 c7 c8 c9 c10 c11 c12 c13 : Cl} {d : Ad} {h : UH} {a0 : Nat} {p1 : Int32} {r : Cl} (hD : 2 ≤ D) (hW : HW (mkw c0 c1 c2 c3 c4 c5 c6 c7 c8 c9 c10 c11 c12 c13) d h) (ha0 : aK d a0 = (0, 6, 0)) (hF : F_57 c6 a0 p1 = some r) : ∃ q, EX D 57 [.ref a0, .int p1] h q ∧ q.1 = none ∧ HW (mkw c0 c1 c2 c3 c4 c5 r c7 c8 c9 c10 c11 c12 c13) d q.2 := by
  obtain ⟨D, rfl⟩ : ∃ E, D = E + 1 := ⟨D - 1, by omega⟩
  unfold F_57 at hF
  refine ex_in (kl := kl_57) (nL := 5) rfl (by decide +kernel) (Nat.le_of_ble_eq_true rfl) ?_
  obtain ⟨QQ, hQQ⟩ : ∃ QQ : UR → Prop, QQ = (fun q : UR => q.1 = none ∧ HW (mkw c0 c1 c2 c3 c4 c5 r c7 c8 c9 c10 c11 c12 c13) d q.2) := ⟨_, rfl⟩
  rw [← hQQ]
  have hQ : ∀ h' : UH, HW (mkw c0 c1 c2 c3 c4 c5 r c7 c8 c9 c10 c11 c12 c13) d h' → QQ (none, h') := fun h' p => by rw [hQQ]; exact ⟨rfl, p⟩
  clear hQQ
  show Ends (EX D) (u_at kl_57) (0, [some (.ref a0), some (.int p1), none, none, none], [], h) QQ
  refine en_segs [(0, .aload_n 0, [])] (by decide +kernel) (y := (1, [some (.ref a0), some (.int p1), none, none, none], [.ref a0], h)) rfl ?_
  refine en_get (by decide +kernel : u_at kl_57 1 = some (.getfield 34, [6, 11])) hW ha0 (by decide) rfl ?_
  refine en_segs [(4, .iconst 0, [])] (by decide +kernel) (y := (5, [some (.ref a0), some (.int p1), none, none, none], [.int 0, .ref (aP d 6 11 a0)], h)) rfl ?_
  obtain ⟨c6_1, hc6_1, hF⟩ := ob_some hF
  refine en_sv (r := []) (by decide +kernel : u_at kl_57 5 = some (.invokestatic 113, [304, 2])) rfl rfl (Nat.le_of_ble_eq_true rfl) (e_fillI (D := D) (v := 0) (by omega) hW ha0 rfl (by decide)) (fun h hW => ?_)
  have hW : HW (mkw c0 c1 c2 c3 c4 c5 c6_1 c7 c8 c9 c10 c11 c12 c13) d h := by rw [← Option.some.inj hc6_1]; exact hW
  refine en_segs [(8, .iload_n 1, []), (9, .istore_n 2, []), (10, .aload_n 0, [])] (by decide +kernel) (y := (11, [some (.ref a0), some (.int p1), some (.int p1), none, none], [.ref a0], h)) rfl ?_
  refine en_get (by decide +kernel : u_at kl_57 11 = some (.getfield 74, [6, 1])) hW ha0 (by decide) rfl ?_
  refine en_segs [(14, .iconst 1, []), (15, .isub, []), (16, .istore_n 3, [])] (by decide +kernel) (y := (17, [some (.ref a0), some (.int p1), some (.int p1), some (.int ((cI c6_1 1 a0) - 1)), none], [], h)) rfl ?_
  refine en_fg (fg_k (fg_d (fg_k (fg_k (fg_k fg_0))))) ?_
  exact (g_57 (D := D) hD ha0 _ _ _ _ _ _ hF) _ _ rfl rfl rfl rfl  _ hW _ hQ
def G_51 (c1 : Cl) (c8 : Cl) (a0 : Nat) (a1 : Nat) (lab : Nat) (xs : List Int32) (ys : List Int64) (zs : List Nat) (c6 : Cl) : Option Cl := match lab, xs, ys, zs with
  | 0, [x3], [], [z2] =>
    if (cI c1 2 z2) ≤ x3 then
    some (sI c6 2 a0 1) >>= fun c6_8 =>
    some (sI c6_8 3 a0 0) >>= fun c6_9 =>
    G_51 c1 c8 a0 a1 1 [(cI c6_9 1 a0) - 1] [] [] c6_9
    else
    F_83 c8 a1 x3 >>= fun r10 =>
    ((if r10 = 0 then
    some c6
    else
    ast c6 4 a0 6 (cI c6 1 a0) x3 >>= fun c6_14 =>
    ald (cA c1 8 z2) 6 x3 >>= fun v15 =>
    ast c6_14 5 a0 6 (cI c6_14 1 a0) v15 >>= fun c6_16 =>
    ald (cA c8 4 a1) 6 x3 >>= fun v17 =>
    ast c6_16 10 a0 6 (cI c6_16 1 a0) v17 >>= fun c6_18 =>
    some (sI c6_18 1 a0 ((cI c6_18 1 a0) + 1)) >>= fun c6_19 =>
    some c6_19) : Option (Cl)) >>= fun (t11 : Cl) =>
    G_51 c1 c8 a0 a1 0 [x3 + 1] [] [z2] t11
  | 1, [x3], [], [] =>
    if x3 < 0 then
    F_57 c6 a0 (cI c6 3 a0) >>= fun r21 =>
    some r21
    else
    ast c6 6 a0 6 x3 (cI c6 2 a0) >>= fun c6_22 =>
    ald (cA c6_22 10 a0) 6 x3 >>= fun v23 =>
    some (sI c6_22 3 a0 ((cI c6_22 3 a0) + (v23 * (cI c6_22 2 a0)))) >>= fun c6_24 =>
    some (sI c6_24 2 a0 ((cI c6_24 2 a0) * (cI c6_24 0 a0))) >>= fun c6_25 =>
    G_51 c1 c8 a0 a1 1 [x3 + (-1)] [] [] c6_25
  | _, _, _, _ => none
partial_fixpoint
set_option maxRecDepth 100000 in
set_option maxHeartbeats 4000000 in
theorem g_51 {D : Nat} (hD : 3 ≤ D + 1) {c0 c1 c2 c3 c4 c5 c7 c8 c9 c10 c11 c12 c13 : Cl} {d : Ad} {a0 : Nat} {a1 : Nat} (ha0 : aK d a0 = (0, 6, 0)) (ha1 : aK d a1 = (0, 8, 0)) : ∀ (lab : Nat) (xs : List Int32) (ys : List Int64) (zs : List Nat) (c6 : Cl) (r : Cl), G_51 c1 c8 a0 a1 lab xs ys zs c6 = some r →
    (∀ (x3 : Int32) (z2 : Nat), lab = 0 → xs = [x3] → ys = [] → zs = [z2] → aK d z2 = (0, 1, 0) → ∀ h : UH, HW (mkw c0 c1 c2 c3 c4 c5 c6 c7 c8 c9 c10 c11 c12 c13) d h → ∀ QQ : UR → Prop, (∀ h' : UH, HW (mkw c0 c1 c2 c3 c4 c5 r c7 c8 c9 c10 c11 c12 c13) d h' → QQ (none, h')) → Ends (EX D) (u_at kl_51) (55, [some (.ref a0), some (.ref a1), some (.ref z2), some (.int x3)], [], h) QQ) ∧
    (∀ (x3 : Int32), lab = 1 → xs = [x3] → ys = [] → zs = [] → ∀ h : UH, HW (mkw c0 c1 c2 c3 c4 c5 c6 c7 c8 c9 c10 c11 c12 c13) d h → ∀ QQ : UR → Prop, (∀ h' : UH, HW (mkw c0 c1 c2 c3 c4 c5 r c7 c8 c9 c10 c11 c12 c13) d h' → QQ (none, h')) → Ends (EX D) (u_at kl_51) (144, [some (.ref a0), none, none, some (.int x3)], [], h) QQ) := by
  refine G_51.partial_correctness _ _ _ _ (motive := fun lab xs ys zs c6 r =>
    (∀ (x3 : Int32) (z2 : Nat), lab = 0 → xs = [x3] → ys = [] → zs = [z2] → aK d z2 = (0, 1, 0) → ∀ h : UH, HW (mkw c0 c1 c2 c3 c4 c5 c6 c7 c8 c9 c10 c11 c12 c13) d h → ∀ QQ : UR → Prop, (∀ h' : UH, HW (mkw c0 c1 c2 c3 c4 c5 r c7 c8 c9 c10 c11 c12 c13) d h' → QQ (none, h')) → Ends (EX D) (u_at kl_51) (55, [some (.ref a0), some (.ref a1), some (.ref z2), some (.int x3)], [], h) QQ) ∧
    (∀ (x3 : Int32), lab = 1 → xs = [x3] → ys = [] → zs = [] → ∀ h : UH, HW (mkw c0 c1 c2 c3 c4 c5 c6 c7 c8 c9 c10 c11 c12 c13) d h → ∀ QQ : UR → Prop, (∀ h' : UH, HW (mkw c0 c1 c2 c3 c4 c5 r c7 c8 c9 c10 c11 c12 c13) d h' → QQ (none, h')) → Ends (EX D) (u_at kl_51) (144, [some (.ref a0), none, none, some (.int x3)], [], h) QQ)) ?_
  intro G ih lab xs ys zs c6 r hF
  refine ⟨?_, ?_⟩
  · intro x3 z2 e1 e2 e3 e4 hz2 h hW QQ hQ
    subst e1 e2 e3 e4
    refine en_segs [(55, .iload_n 3, []), (56, .aload_n 2, [])] (by decide +kernel) (y := (57, [some (.ref a0), some (.ref a1), some (.ref z2), some (.int x3)], [.ref z2, .int x3], h)) rfl ?_
    refine en_get (by decide +kernel : u_at kl_51 57 = some (.getfield 77, [1, 2])) hW hz2 (by decide) rfl ?_
    refine en_ic_ge (by decide +kernel : u_at kl_51 60 = some (.if_icmp .ge 67, [127])) (fun b7 => ?_) (fun b7 => ?_)
    · replace hF := i_pos b7 hF
      refine en_segs [(127, .aload_n 0, []), (128, .iconst 1, [])] (by decide +kernel) (y := (129, [some (.ref a0), some (.ref a1), some (.ref z2), some (.int x3)], [.int 1, .ref a0], h)) rfl ?_
      obtain ⟨c6_8, hc6_8, hF⟩ := ob_some hF
      refine en_putI (by decide +kernel : u_at kl_51 129 = some (.putfield 84, [6, 2, 0])) hW ha0 rfl (by decide) rfl (fun h hW => ?_)
      have hW : HW (mkw c0 c1 c2 c3 c4 c5 c6_8 c7 c8 c9 c10 c11 c12 c13) d h := by rw [← Option.some.inj hc6_8]; exact hW
      refine en_segs [(132, .aload_n 0, []), (133, .iconst 0, [])] (by decide +kernel) (y := (134, [some (.ref a0), some (.ref a1), some (.ref z2), some (.int x3)], [.int 0, .ref a0], h)) rfl ?_
      obtain ⟨c6_9, hc6_9, hF⟩ := ob_some hF
      refine en_putI (by decide +kernel : u_at kl_51 134 = some (.putfield 87, [6, 3, 0])) hW ha0 rfl (by decide) rfl (fun h hW => ?_)
      have hW : HW (mkw c0 c1 c2 c3 c4 c5 c6_9 c7 c8 c9 c10 c11 c12 c13) d h := by rw [← Option.some.inj hc6_9]; exact hW
      refine en_segs [(137, .aload_n 0, [])] (by decide +kernel) (y := (138, [some (.ref a0), some (.ref a1), some (.ref z2), some (.int x3)], [.ref a0], h)) rfl ?_
      refine en_get (by decide +kernel : u_at kl_51 138 = some (.getfield 74, [6, 1])) hW ha0 (by decide) rfl ?_
      refine en_segs [(141, .iconst 1, []), (142, .isub, []), (143, .istore_n 3, [])] (by decide +kernel) (y := (144, [some (.ref a0), some (.ref a1), some (.ref z2), some (.int ((cI c6_9 1 a0) - 1))], [], h)) rfl ?_
      refine en_fg (fg_k (fg_d (fg_d (fg_k fg_0)))) ?_
      exact (ih _ _ _ _ _ _ hF).2 _ rfl rfl rfl rfl  _ hW _ hQ
    · replace hF := i_neg b7 hF
      refine en_segs [(63, .aload_n 1, []), (64, .iload_n 3, [])] (by decide +kernel) (y := (65, [some (.ref a0), some (.ref a1), some (.ref z2), some (.int x3)], [.int x3, .ref a1], h)) rfl ?_
      obtain ⟨r10, hr10, hF⟩ := ob_some hF
      refine en_vi (r := []) (by decide +kernel : u_at kl_51 65 = some (.invokevirtual 78, [83, 1, 8])) hW ha1 rfl rfl (Nat.le_of_ble_eq_true rfl) (e_83 (D := D) (by omega) hW ha1 hr10) (fun h' q => ?_)
      subst q
      obtain ⟨t11, hX, hK⟩ := ob_some hF
      have j12 : ∀ h : UH, HW (mkw c0 c1 c2 c3 c4 c5 t11 c7 c8 c9 c10 c11 c12 c13) d h → Ends (EX D) (u_at kl_51) (121, [some (.ref a0), some (.ref a1), some (.ref z2), some (.int x3)], [], h) QQ := by
        intro h hW
        have hF := hK
        refine en_segs [(121, .iinc 3 1, []), (124, .goto (-69), [55])] (by decide +kernel) (y := (55, [some (.ref a0), some (.ref a1), some (.ref z2), some (.int (x3 + 1))], [], h)) rfl ?_
        exact (ih _ _ _ _ _ _ hF).1 _ _ rfl rfl rfl rfl hz2 _ hW _ hQ
      have hF := hX
      refine en_if_eq (by decide +kernel : u_at kl_51 68 = some (.ifCond .eq 53, [121])) (fun b13 => ?_) (fun b13 => ?_)
      · replace hF := i_pos b13 hF
        obtain rfl := Option.some.inj hF
        exact j12 _ hW
      · replace hF := i_neg b13 hF
        refine en_segs [(71, .aload_n 0, [])] (by decide +kernel) (y := (72, [some (.ref a0), some (.ref a1), some (.ref z2), some (.int x3)], [.ref a0], h)) rfl ?_
        refine en_get (by decide +kernel : u_at kl_51 72 = some (.getfield 9, [6, 4])) hW ha0 (by decide) rfl ?_
        refine en_segs [(75, .aload_n 0, [])] (by decide +kernel) (y := (76, [some (.ref a0), some (.ref a1), some (.ref z2), some (.int x3)], [.ref a0, .ref (aP d 6 4 a0)], h)) rfl ?_
        refine en_get (by decide +kernel : u_at kl_51 76 = some (.getfield 74, [6, 1])) hW ha0 (by decide) rfl ?_
        refine en_segs [(79, .iload_n 3, [])] (by decide +kernel) (y := (80, [some (.ref a0), some (.ref a1), some (.ref z2), some (.int x3)], [.int x3, .int (cI c6 1 a0), .ref (aP d 6 4 a0)], h)) rfl ?_
        obtain ⟨c6_14, hc6_14, hF⟩ := ob_some hF
        refine en_iast (by decide +kernel : u_at kl_51 80 = some (.iastore, [])) hW ha0 rfl (by decide) hc6_14 (fun h hW => ?_)
        have hW : HW (mkw c0 c1 c2 c3 c4 c5 c6_14 c7 c8 c9 c10 c11 c12 c13) d h := hW
        refine en_segs [(81, .aload_n 0, [])] (by decide +kernel) (y := (82, [some (.ref a0), some (.ref a1), some (.ref z2), some (.int x3)], [.ref a0], h)) rfl ?_
        refine en_get (by decide +kernel : u_at kl_51 82 = some (.getfield 15, [6, 5])) hW ha0 (by decide) rfl ?_
        refine en_segs [(85, .aload_n 0, [])] (by decide +kernel) (y := (86, [some (.ref a0), some (.ref a1), some (.ref z2), some (.int x3)], [.ref a0, .ref (aP d 6 5 a0)], h)) rfl ?_
        refine en_get (by decide +kernel : u_at kl_51 86 = some (.getfield 74, [6, 1])) hW ha0 (by decide) rfl ?_
        refine en_segs [(89, .aload_n 2, [])] (by decide +kernel) (y := (90, [some (.ref a0), some (.ref a1), some (.ref z2), some (.int x3)], [.ref z2, .int (cI c6_14 1 a0), .ref (aP d 6 5 a0)], h)) rfl ?_
        refine en_get (by decide +kernel : u_at kl_51 90 = some (.getfield 82, [1, 8])) hW hz2 (by decide) rfl ?_
        refine en_segs [(93, .iload_n 3, [])] (by decide +kernel) (y := (94, [some (.ref a0), some (.ref a1), some (.ref z2), some (.int x3)], [.int x3, .ref (aP d 1 8 z2), .int (cI c6_14 1 a0), .ref (aP d 6 5 a0)], h)) rfl ?_
        obtain ⟨v15, hv15, hF⟩ := ob_some hF
        refine en_iald (by decide +kernel : u_at kl_51 94 = some (.iaload, [])) hW hz2 rfl (by decide) hv15 ?_
        obtain ⟨c6_16, hc6_16, hF⟩ := ob_some hF
        refine en_iast (by decide +kernel : u_at kl_51 95 = some (.iastore, [])) hW ha0 rfl (by decide) hc6_16 (fun h hW => ?_)
        have hW : HW (mkw c0 c1 c2 c3 c4 c5 c6_16 c7 c8 c9 c10 c11 c12 c13) d h := hW
        refine en_segs [(96, .aload_n 0, [])] (by decide +kernel) (y := (97, [some (.ref a0), some (.ref a1), some (.ref z2), some (.int x3)], [.ref a0], h)) rfl ?_
        refine en_get (by decide +kernel : u_at kl_51 97 = some (.getfield 31, [6, 10])) hW ha0 (by decide) rfl ?_
        refine en_segs [(100, .aload_n 0, [])] (by decide +kernel) (y := (101, [some (.ref a0), some (.ref a1), some (.ref z2), some (.int x3)], [.ref a0, .ref (aP d 6 10 a0)], h)) rfl ?_
        refine en_get (by decide +kernel : u_at kl_51 101 = some (.getfield 74, [6, 1])) hW ha0 (by decide) rfl ?_
        refine en_segs [(104, .aload_n 1, [])] (by decide +kernel) (y := (105, [some (.ref a0), some (.ref a1), some (.ref z2), some (.int x3)], [.ref a1, .int (cI c6_16 1 a0), .ref (aP d 6 10 a0)], h)) rfl ?_
        refine en_get (by decide +kernel : u_at kl_51 105 = some (.getfield 83, [8, 4])) hW ha1 (by decide) rfl ?_
        refine en_segs [(108, .iload_n 3, [])] (by decide +kernel) (y := (109, [some (.ref a0), some (.ref a1), some (.ref z2), some (.int x3)], [.int x3, .ref (aP d 8 4 a1), .int (cI c6_16 1 a0), .ref (aP d 6 10 a0)], h)) rfl ?_
        obtain ⟨v17, hv17, hF⟩ := ob_some hF
        refine en_iald (by decide +kernel : u_at kl_51 109 = some (.iaload, [])) hW ha1 rfl (by decide) hv17 ?_
        obtain ⟨c6_18, hc6_18, hF⟩ := ob_some hF
        refine en_iast (by decide +kernel : u_at kl_51 110 = some (.iastore, [])) hW ha0 rfl (by decide) hc6_18 (fun h hW => ?_)
        have hW : HW (mkw c0 c1 c2 c3 c4 c5 c6_18 c7 c8 c9 c10 c11 c12 c13) d h := hW
        refine en_segs [(111, .aload_n 0, []), (112, .dup, [])] (by decide +kernel) (y := (113, [some (.ref a0), some (.ref a1), some (.ref z2), some (.int x3)], [.ref a0, .ref a0], h)) rfl ?_
        refine en_get (by decide +kernel : u_at kl_51 113 = some (.getfield 74, [6, 1])) hW ha0 (by decide) rfl ?_
        refine en_segs [(116, .iconst 1, []), (117, .iadd, [])] (by decide +kernel) (y := (118, [some (.ref a0), some (.ref a1), some (.ref z2), some (.int x3)], [.int ((cI c6_18 1 a0) + 1), .ref a0], h)) rfl ?_
        obtain ⟨c6_19, hc6_19, hF⟩ := ob_some hF
        refine en_putI (by decide +kernel : u_at kl_51 118 = some (.putfield 74, [6, 1, 0])) hW ha0 rfl (by decide) rfl (fun h hW => ?_)
        have hW : HW (mkw c0 c1 c2 c3 c4 c5 c6_19 c7 c8 c9 c10 c11 c12 c13) d h := by rw [← Option.some.inj hc6_19]; exact hW
        obtain rfl := Option.some.inj hF
        exact j12 _ hW
  · intro x3 e1 e2 e3 e4 h hW QQ hQ
    subst e1 e2 e3 e4
    refine en_segs [(144, .iload_n 3, [])] (by decide +kernel) (y := (145, [some (.ref a0), none, none, some (.int x3)], [.int x3], h)) rfl ?_
    refine en_if_lt (by decide +kernel : u_at kl_51 145 = some (.ifCond .lt 52, [197])) (fun b20 => ?_) (fun b20 => ?_)
    · replace hF := i_pos b20 hF
      refine en_segs [(197, .aload_n 0, []), (198, .aload_n 0, [])] (by decide +kernel) (y := (199, [some (.ref a0), none, none, some (.int x3)], [.ref a0, .ref a0], h)) rfl ?_
      refine en_get (by decide +kernel : u_at kl_51 199 = some (.getfield 87, [6, 3])) hW ha0 (by decide) rfl ?_
      obtain ⟨r21, hr21, hF⟩ := ob_some hF
      refine en_vv (r := []) (by decide +kernel : u_at kl_51 202 = some (.invokevirtual 90, [57, 1, 6])) hW ha0 rfl rfl (Nat.le_of_ble_eq_true rfl) (e_57 (D := D) (by omega) hW ha0 hr21) (fun h hW => ?_)
      have hW : HW (mkw c0 c1 c2 c3 c4 c5 r21 c7 c8 c9 c10 c11 c12 c13) d h := hW
      obtain rfl := Option.some.inj hF
      exact en_ret (by decide +kernel : u_at kl_51 205 = some (.return_, [])) rfl (hQ _ hW)
    · replace hF := i_neg b20 hF
      refine en_segs [(148, .aload_n 0, [])] (by decide +kernel) (y := (149, [some (.ref a0), none, none, some (.int x3)], [.ref a0], h)) rfl ?_
      refine en_get (by decide +kernel : u_at kl_51 149 = some (.getfield 18, [6, 6])) hW ha0 (by decide) rfl ?_
      refine en_segs [(152, .iload_n 3, []), (153, .aload_n 0, [])] (by decide +kernel) (y := (154, [some (.ref a0), none, none, some (.int x3)], [.ref a0, .int x3, .ref (aP d 6 6 a0)], h)) rfl ?_
      refine en_get (by decide +kernel : u_at kl_51 154 = some (.getfield 84, [6, 2])) hW ha0 (by decide) rfl ?_
      obtain ⟨c6_22, hc6_22, hF⟩ := ob_some hF
      refine en_iast (by decide +kernel : u_at kl_51 157 = some (.iastore, [])) hW ha0 rfl (by decide) hc6_22 (fun h hW => ?_)
      have hW : HW (mkw c0 c1 c2 c3 c4 c5 c6_22 c7 c8 c9 c10 c11 c12 c13) d h := hW
      refine en_segs [(158, .aload_n 0, []), (159, .dup, [])] (by decide +kernel) (y := (160, [some (.ref a0), none, none, some (.int x3)], [.ref a0, .ref a0], h)) rfl ?_
      refine en_get (by decide +kernel : u_at kl_51 160 = some (.getfield 87, [6, 3])) hW ha0 (by decide) rfl ?_
      refine en_segs [(163, .aload_n 0, [])] (by decide +kernel) (y := (164, [some (.ref a0), none, none, some (.int x3)], [.ref a0, .int (cI c6_22 3 a0), .ref a0], h)) rfl ?_
      refine en_get (by decide +kernel : u_at kl_51 164 = some (.getfield 31, [6, 10])) hW ha0 (by decide) rfl ?_
      refine en_segs [(167, .iload_n 3, [])] (by decide +kernel) (y := (168, [some (.ref a0), none, none, some (.int x3)], [.int x3, .ref (aP d 6 10 a0), .int (cI c6_22 3 a0), .ref a0], h)) rfl ?_
      obtain ⟨v23, hv23, hF⟩ := ob_some hF
      refine en_iald (by decide +kernel : u_at kl_51 168 = some (.iaload, [])) hW ha0 rfl (by decide) hv23 ?_
      refine en_segs [(169, .aload_n 0, [])] (by decide +kernel) (y := (170, [some (.ref a0), none, none, some (.int x3)], [.ref a0, .int v23, .int (cI c6_22 3 a0), .ref a0], h)) rfl ?_
      refine en_get (by decide +kernel : u_at kl_51 170 = some (.getfield 84, [6, 2])) hW ha0 (by decide) rfl ?_
      refine en_segs [(173, .imul, []), (174, .iadd, [])] (by decide +kernel) (y := (175, [some (.ref a0), none, none, some (.int x3)], [.int ((cI c6_22 3 a0) + (v23 * (cI c6_22 2 a0))), .ref a0], h)) rfl ?_
      obtain ⟨c6_24, hc6_24, hF⟩ := ob_some hF
      refine en_putI (by decide +kernel : u_at kl_51 175 = some (.putfield 87, [6, 3, 0])) hW ha0 rfl (by decide) rfl (fun h hW => ?_)
      have hW : HW (mkw c0 c1 c2 c3 c4 c5 c6_24 c7 c8 c9 c10 c11 c12 c13) d h := by rw [← Option.some.inj hc6_24]; exact hW
      refine en_segs [(178, .aload_n 0, []), (179, .dup, [])] (by decide +kernel) (y := (180, [some (.ref a0), none, none, some (.int x3)], [.ref a0, .ref a0], h)) rfl ?_
      refine en_get (by decide +kernel : u_at kl_51 180 = some (.getfield 84, [6, 2])) hW ha0 (by decide) rfl ?_
      refine en_segs [(183, .aload_n 0, [])] (by decide +kernel) (y := (184, [some (.ref a0), none, none, some (.int x3)], [.ref a0, .int (cI c6_24 2 a0), .ref a0], h)) rfl ?_
      refine en_get (by decide +kernel : u_at kl_51 184 = some (.getfield 61, [6, 0])) hW ha0 (by decide) rfl ?_
      refine en_segs [(187, .imul, [])] (by decide +kernel) (y := (188, [some (.ref a0), none, none, some (.int x3)], [.int ((cI c6_24 2 a0) * (cI c6_24 0 a0)), .ref a0], h)) rfl ?_
      obtain ⟨c6_25, hc6_25, hF⟩ := ob_some hF
      refine en_putI (by decide +kernel : u_at kl_51 188 = some (.putfield 84, [6, 2, 0])) hW ha0 rfl (by decide) rfl (fun h hW => ?_)
      have hW : HW (mkw c0 c1 c2 c3 c4 c5 c6_25 c7 c8 c9 c10 c11 c12 c13) d h := by rw [← Option.some.inj hc6_25]; exact hW
      refine en_segs [(191, .iinc 3 (-1), []), (194, .goto (-50), [144])] (by decide +kernel) (y := (144, [some (.ref a0), none, none, some (.int (x3 + (-1)))], [], h)) rfl ?_
      exact (ih _ _ _ _ _ _ hF).2 _ rfl rfl rfl rfl  _ hW _ hQ
def F_51 (c1 : Cl) (c6 : Cl) (c8 : Cl) (a0 : Nat) (a1 : Nat) : Option Cl :=
  some (sI c6 0 a0 (cI c1 0 (cR c8 0 a1))) >>= fun c6_2 =>
  cpi c1 c6_2 10 (cR c8 0 a1) 6 7 a0 6 0 0 6 >>= fun c6_3 =>
  cpi c8 c6_3 12 a1 6 8 a0 6 0 0 6 >>= fun c6_4 =>
  F_52 c1 c6_4 a0 (cR c8 0 a1) >>= fun r5 =>
  some (sI r5 1 a0 0) >>= fun c6_6 =>
  G_51 c1 c8 a0 a1 0 [0] [] [cR c8 0 a1] c6_6
set_option maxRecDepth 100000 in
set_option maxHeartbeats 4000000 in
/-- HeadCounts$Scene.take -/
theorem e_51 {D : Nat} {c0 c1 c2 c3 c4 c5 c6 c7 c8 c9 c10 c11 c12 c13 : Cl} {d : Ad} {h : UH} {a0 : Nat} {a1 : Nat} {r : Cl} (hD : 3 ≤ D) (hW : HW (mkw c0 c1 c2 c3 c4 c5 c6 c7 c8 c9 c10 c11 c12 c13) d h) (ha0 : aK d a0 = (0, 6, 0)) (ha1 : aK d a1 = (0, 8, 0)) (hF : F_51 c1 c6 c8 a0 a1 = some r) : ∃ q, EX D 51 [.ref a0, .ref a1] h q ∧ q.1 = none ∧ HW (mkw c0 c1 c2 c3 c4 c5 r c7 c8 c9 c10 c11 c12 c13) d q.2 := by
  obtain ⟨D, rfl⟩ : ∃ E, D = E + 1 := ⟨D - 1, by omega⟩
  unfold F_51 at hF
  refine ex_in (kl := kl_51) (nL := 4) rfl (by decide +kernel) (Nat.le_of_ble_eq_true rfl) ?_
  obtain ⟨QQ, hQQ⟩ : ∃ QQ : UR → Prop, QQ = (fun q : UR => q.1 = none ∧ HW (mkw c0 c1 c2 c3 c4 c5 r c7 c8 c9 c10 c11 c12 c13) d q.2) := ⟨_, rfl⟩
  rw [← hQQ]
  have hQ : ∀ h' : UH, HW (mkw c0 c1 c2 c3 c4 c5 r c7 c8 c9 c10 c11 c12 c13) d h' → QQ (none, h') := fun h' p => by rw [hQQ]; exact ⟨rfl, p⟩
  clear hQQ
  show Ends (EX D) (u_at kl_51) (0, [some (.ref a0), some (.ref a1), none, none], [], h) QQ
  refine en_segs [(0, .aload_n 1, [])] (by decide +kernel) (y := (1, [some (.ref a0), some (.ref a1), none, none], [.ref a1], h)) rfl ?_
  have k1 : aK d (cR c8 0 a1) = (0, 1, 0) := wf_obj hW ha1 (by decide) rfl
  refine en_get (by decide +kernel : u_at kl_51 1 = some (.getfield 49, [8, 0])) hW ha1 (by decide) rfl ?_
  refine en_segs [(4, .astore_n 2, []), (5, .aload_n 0, []), (6, .aload_n 2, [])] (by decide +kernel) (y := (7, [some (.ref a0), some (.ref a1), some (.ref (cR c8 0 a1)), none], [.ref (cR c8 0 a1), .ref a0], h)) rfl ?_
  refine en_get (by decide +kernel : u_at kl_51 7 = some (.getfield 55, [1, 0])) hW k1 (by decide) rfl ?_
  obtain ⟨c6_2, hc6_2, hF⟩ := ob_some hF
  refine en_putI (by decide +kernel : u_at kl_51 10 = some (.putfield 61, [6, 0, 0])) hW ha0 rfl (by decide) rfl (fun h hW => ?_)
  have hW : HW (mkw c0 c1 c2 c3 c4 c5 c6_2 c7 c8 c9 c10 c11 c12 c13) d h := by rw [← Option.some.inj hc6_2]; exact hW
  refine en_segs [(13, .aload_n 2, [])] (by decide +kernel) (y := (14, [some (.ref a0), some (.ref a1), some (.ref (cR c8 0 a1)), none], [.ref (cR c8 0 a1)], h)) rfl ?_
  refine en_get (by decide +kernel : u_at kl_51 14 = some (.getfield 62, [1, 10])) hW k1 (by decide) rfl ?_
  refine en_segs [(17, .iconst 0, []), (18, .aload_n 0, [])] (by decide +kernel) (y := (19, [some (.ref a0), some (.ref a1), some (.ref (cR c8 0 a1)), none], [.ref a0, .int 0, .ref (aP d 1 10 (cR c8 0 a1))], h)) rfl ?_
  refine en_get (by decide +kernel : u_at kl_51 19 = some (.getfield 21, [6, 7])) hW ha0 (by decide) rfl ?_
  refine en_segs [(22, .iconst 0, []), (23, .bipush 6, [])] (by decide +kernel) (y := (25, [some (.ref a0), some (.ref a1), some (.ref (cR c8 0 a1)), none], [.int 6, .int 0, .ref (aP d 6 7 a0), .int 0, .ref (aP d 1 10 (cR c8 0 a1))], h)) rfl ?_
  obtain ⟨c6_3, hc6_3, hF⟩ := ob_some hF
  refine en_copy (by decide +kernel : u_at kl_51 25 = some (.invokestatic 63, [])) hW k1 rfl (by decide) ha0 rfl (by decide) (Nat.le_of_ble_eq_true rfl) hc6_3 (fun h hW => ?_)
  have hW : HW (mkw c0 c1 c2 c3 c4 c5 c6_3 c7 c8 c9 c10 c11 c12 c13) d h := hW
  refine en_segs [(28, .aload_n 1, [])] (by decide +kernel) (y := (29, [some (.ref a0), some (.ref a1), some (.ref (cR c8 0 a1)), none], [.ref a1], h)) rfl ?_
  refine en_get (by decide +kernel : u_at kl_51 29 = some (.getfield 69, [8, 12])) hW ha1 (by decide) rfl ?_
  refine en_segs [(32, .iconst 0, []), (33, .aload_n 0, [])] (by decide +kernel) (y := (34, [some (.ref a0), some (.ref a1), some (.ref (cR c8 0 a1)), none], [.ref a0, .int 0, .ref (aP d 8 12 a1)], h)) rfl ?_
  refine en_get (by decide +kernel : u_at kl_51 34 = some (.getfield 24, [6, 8])) hW ha0 (by decide) rfl ?_
  refine en_segs [(37, .iconst 0, []), (38, .bipush 6, [])] (by decide +kernel) (y := (40, [some (.ref a0), some (.ref a1), some (.ref (cR c8 0 a1)), none], [.int 6, .int 0, .ref (aP d 6 8 a0), .int 0, .ref (aP d 8 12 a1)], h)) rfl ?_
  obtain ⟨c6_4, hc6_4, hF⟩ := ob_some hF
  refine en_copy (by decide +kernel : u_at kl_51 40 = some (.invokestatic 63, [])) hW ha1 rfl (by decide) ha0 rfl (by decide) (Nat.le_of_ble_eq_true rfl) hc6_4 (fun h hW => ?_)
  have hW : HW (mkw c0 c1 c2 c3 c4 c5 c6_4 c7 c8 c9 c10 c11 c12 c13) d h := hW
  refine en_segs [(43, .aload_n 0, []), (44, .aload_n 2, [])] (by decide +kernel) (y := (45, [some (.ref a0), some (.ref a1), some (.ref (cR c8 0 a1)), none], [.ref (cR c8 0 a1), .ref a0], h)) rfl ?_
  obtain ⟨r5, hr5, hF⟩ := ob_some hF
  refine en_vv (r := []) (by decide +kernel : u_at kl_51 45 = some (.invokevirtual 70, [52, 1, 6])) hW ha0 rfl rfl (Nat.le_of_ble_eq_true rfl) (e_52 (D := D) (by omega) hW ha0 k1 hr5) (fun h hW => ?_)
  have hW : HW (mkw c0 c1 c2 c3 c4 c5 r5 c7 c8 c9 c10 c11 c12 c13) d h := hW
  refine en_segs [(48, .aload_n 0, []), (49, .iconst 0, [])] (by decide +kernel) (y := (50, [some (.ref a0), some (.ref a1), some (.ref (cR c8 0 a1)), none], [.int 0, .ref a0], h)) rfl ?_
  obtain ⟨c6_6, hc6_6, hF⟩ := ob_some hF
  refine en_putI (by decide +kernel : u_at kl_51 50 = some (.putfield 74, [6, 1, 0])) hW ha0 rfl (by decide) rfl (fun h hW => ?_)
  have hW : HW (mkw c0 c1 c2 c3 c4 c5 c6_6 c7 c8 c9 c10 c11 c12 c13) d h := by rw [← Option.some.inj hc6_6]; exact hW
  refine en_segs [(53, .iconst 0, []), (54, .istore_n 3, [])] (by decide +kernel) (y := (55, [some (.ref a0), some (.ref a1), some (.ref (cR c8 0 a1)), some (.int 0)], [], h)) rfl ?_
  exact (g_51 (D := D) hD ha0 ha1 _ _ _ _ _ _ hF).1 _ _ rfl rfl rfl rfl k1 _ hW _ hQ
def G_61 (c6 : Cl) (a0 : Nat) (lab : Nat) (xs : List Int32) (ys : List Int64) (zs : List Nat) : Option Int32 := match lab, xs, ys, zs with
  | 0, [x1, x2], [], [] =>
    if (cI c6 1 a0) ≤ x2 then
    some 0
    else
    ald (cA c6 4 a0) 6 x2 >>= fun v2 =>
    if v2 = x1 then
    some x2
    else
    G_61 c6 a0 0 [x1, x2 + 1] [] []
  | _, _, _, _ => none
partial_fixpoint
set_option maxRecDepth 100000 in
set_option maxHeartbeats 4000000 in
theorem g_61 {D : Nat} (hD : 1 ≤ D + 1) {c0 c1 c2 c3 c4 c5 c6 c7 c8 c9 c10 c11 c12 c13 : Cl} {d : Ad} {a0 : Nat} (ha0 : aK d a0 = (0, 6, 0)) : ∀ (lab : Nat) (xs : List Int32) (ys : List Int64) (zs : List Nat) (r : Int32), G_61 c6 a0 lab xs ys zs = some r →
    (∀ (x1 : Int32) (x2 : Int32), lab = 0 → xs = [x1, x2] → ys = [] → zs = [] → ∀ h : UH, HW (mkw c0 c1 c2 c3 c4 c5 c6 c7 c8 c9 c10 c11 c12 c13) d h → ∀ QQ : UR → Prop, QQ (some (.int r), h) → Ends (EX D) (u_at kl_61) (2, [some (.ref a0), some (.int x1), some (.int x2)], [], h) QQ) := by
  refine G_61.partial_correctness _ _ (motive := fun lab xs ys zs r =>
    (∀ (x1 : Int32) (x2 : Int32), lab = 0 → xs = [x1, x2] → ys = [] → zs = [] → ∀ h : UH, HW (mkw c0 c1 c2 c3 c4 c5 c6 c7 c8 c9 c10 c11 c12 c13) d h → ∀ QQ : UR → Prop, QQ (some (.int r), h) → Ends (EX D) (u_at kl_61) (2, [some (.ref a0), some (.int x1), some (.int x2)], [], h) QQ)) ?_
  intro G ih lab xs ys zs r hF
  · intro x1 x2 e1 e2 e3 e4 h hW QQ hQ
    subst e1 e2 e3 e4
    refine en_segs [(2, .iload_n 2, []), (3, .aload_n 0, [])] (by decide +kernel) (y := (4, [some (.ref a0), some (.int x1), some (.int x2)], [.ref a0, .int x2], h)) rfl ?_
    refine en_get (by decide +kernel : u_at kl_61 4 = some (.getfield 74, [6, 1])) hW ha0 (by decide) rfl ?_
    refine en_ic_ge (by decide +kernel : u_at kl_61 7 = some (.if_icmp .ge 21, [28])) (fun b1 => ?_) (fun b1 => ?_)
    · replace hF := i_pos b1 hF
      refine en_segs [(28, .iconst 0, [])] (by decide +kernel) (y := (29, [some (.ref a0), some (.int x1), some (.int x2)], [.int 0], h)) rfl ?_
      obtain rfl := Option.some.inj hF
      exact en_ret (by decide +kernel : u_at kl_61 29 = some (.ireturn, [0])) rfl (hQ)
    · replace hF := i_neg b1 hF
      refine en_segs [(10, .aload_n 0, [])] (by decide +kernel) (y := (11, [some (.ref a0), some (.int x1), some (.int x2)], [.ref a0], h)) rfl ?_
      refine en_get (by decide +kernel : u_at kl_61 11 = some (.getfield 9, [6, 4])) hW ha0 (by decide) rfl ?_
      refine en_segs [(14, .iload_n 2, [])] (by decide +kernel) (y := (15, [some (.ref a0), some (.int x1), some (.int x2)], [.int x2, .ref (aP d 6 4 a0)], h)) rfl ?_
      obtain ⟨v2, hv2, hF⟩ := ob_some hF
      refine en_iald (by decide +kernel : u_at kl_61 15 = some (.iaload, [])) hW ha0 rfl (by decide) hv2 ?_
      refine en_segs [(16, .iload_n 1, [])] (by decide +kernel) (y := (17, [some (.ref a0), some (.int x1), some (.int x2)], [.int x1, .int v2], h)) rfl ?_
      refine en_ic_ne (by decide +kernel : u_at kl_61 17 = some (.if_icmp .ne 5, [22])) (fun b3 => ?_) (fun b3 => ?_)
      · replace hF := i_pos b3 hF
        refine en_segs [(20, .iload_n 2, [])] (by decide +kernel) (y := (21, [some (.ref a0), some (.int x1), some (.int x2)], [.int x2], h)) rfl ?_
        obtain rfl := Option.some.inj hF
        exact en_ret (by decide +kernel : u_at kl_61 21 = some (.ireturn, [0])) rfl (hQ)
      · replace hF := i_neg b3 hF
        refine en_segs [(22, .iinc 2 1, []), (25, .goto (-23), [2])] (by decide +kernel) (y := (2, [some (.ref a0), some (.int x1), some (.int (x2 + 1))], [], h)) rfl ?_
        exact (ih _ _ _ _ _ hF) _ _ rfl rfl rfl rfl  _ hW _ hQ
def F_61 (c6 : Cl) (a0 : Nat) (p1 : Int32) : Option Int32 :=
  G_61 c6 a0 0 [p1, 0] [] []
set_option maxRecDepth 100000 in
set_option maxHeartbeats 4000000 in
/-- HeadCounts$Scene.placeOf -/
theorem e_61 {D : Nat} {c0 c1 c2 c3 c4 c5 c6 c7 c8 c9 c10 c11 c12 c13 : Cl} {d : Ad} {h : UH} {a0 : Nat} {p1 : Int32} {r : Int32} (hD : 1 ≤ D) (hW : HW (mkw c0 c1 c2 c3 c4 c5 c6 c7 c8 c9 c10 c11 c12 c13) d h) (ha0 : aK d a0 = (0, 6, 0)) (hF : F_61 c6 a0 p1 = some r) : ∃ q, EX D 61 [.ref a0, .int p1] h q ∧ q.1 = some (.int r) ∧ h = q.2 := by
  obtain ⟨D, rfl⟩ : ∃ E, D = E + 1 := ⟨D - 1, by omega⟩
  unfold F_61 at hF
  refine ex_in (kl := kl_61) (nL := 3) rfl (by decide +kernel) (Nat.le_of_ble_eq_true rfl) ?_
  obtain ⟨QQ, hQQ⟩ : ∃ QQ : UR → Prop, QQ = (fun q : UR => q.1 = some (.int r) ∧ h = q.2) := ⟨_, rfl⟩
  rw [← hQQ]
  have hQ : QQ (some (.int r), h) := by rw [hQQ]; exact ⟨rfl, rfl⟩
  clear hQQ
  show Ends (EX D) (u_at kl_61) (0, [some (.ref a0), some (.int p1), none], [], h) QQ
  refine en_segs [(0, .iconst 0, []), (1, .istore_n 2, [])] (by decide +kernel) (y := (2, [some (.ref a0), some (.int p1), some (.int 0)], [], h)) rfl ?_
  exact (g_61 (D := D) hD ha0 _ _ _ _ _ hF) _ _ rfl rfl rfl rfl  _ hW _ hQ
def G_58 (c6 : Cl) (a0 : Nat) (lab : Nat) (xs : List Int32) (ys : List Int64) (zs : List Nat) : Option Int64 := match lab, xs, ys, zs with
  | 0, [x3], [y1], [] =>
    if (cI c6 1 a0) ≤ x3 then
    some y1
    else
    ald (cA c6 5 a0) 6 x3 >>= fun v2 =>
    ald (cA c6 10 a0) 6 x3 >>= fun v3 =>
    ldl (cB c6 9 a0) 6 v3 >>= fun v4 =>
    G_58 c6 a0 0 [x3 + 1] [y1 + (((v2 : Int32).toInt64) * v4)] []
  | _, _, _, _ => none
partial_fixpoint
set_option maxRecDepth 100000 in
set_option maxHeartbeats 4000000 in
theorem g_58 {D : Nat} (hD : 1 ≤ D + 1) {c0 c1 c2 c3 c4 c5 c6 c7 c8 c9 c10 c11 c12 c13 : Cl} {d : Ad} {a0 : Nat} (ha0 : aK d a0 = (0, 6, 0)) : ∀ (lab : Nat) (xs : List Int32) (ys : List Int64) (zs : List Nat) (r : Int64), G_58 c6 a0 lab xs ys zs = some r →
    (∀ (x3 : Int32) (y1 : Int64), lab = 0 → xs = [x3] → ys = [y1] → zs = [] → ∀ h : UH, HW (mkw c0 c1 c2 c3 c4 c5 c6 c7 c8 c9 c10 c11 c12 c13) d h → ∀ QQ : UR → Prop, QQ (some (.long r), h) → Ends (EX D) (u_at kl_58) (4, [some (.ref a0), some (.long y1), none, some (.int x3)], [], h) QQ) := by
  refine G_58.partial_correctness _ _ (motive := fun lab xs ys zs r =>
    (∀ (x3 : Int32) (y1 : Int64), lab = 0 → xs = [x3] → ys = [y1] → zs = [] → ∀ h : UH, HW (mkw c0 c1 c2 c3 c4 c5 c6 c7 c8 c9 c10 c11 c12 c13) d h → ∀ QQ : UR → Prop, QQ (some (.long r), h) → Ends (EX D) (u_at kl_58) (4, [some (.ref a0), some (.long y1), none, some (.int x3)], [], h) QQ)) ?_
  intro G ih lab xs ys zs r hF
  · intro x3 y1 e1 e2 e3 e4 h hW QQ hQ
    subst e1 e2 e3 e4
    refine en_segs [(4, .iload_n 3, []), (5, .aload_n 0, [])] (by decide +kernel) (y := (6, [some (.ref a0), some (.long y1), none, some (.int x3)], [.ref a0, .int x3], h)) rfl ?_
    refine en_get (by decide +kernel : u_at kl_58 6 = some (.getfield 74, [6, 1])) hW ha0 (by decide) rfl ?_
    refine en_ic_ge (by decide +kernel : u_at kl_58 9 = some (.if_icmp .ge 31, [40])) (fun b1 => ?_) (fun b1 => ?_)
    · replace hF := i_pos b1 hF
      refine en_segs [(40, .lload_n 1, [])] (by decide +kernel) (y := (41, [some (.ref a0), some (.long y1), none, some (.int x3)], [.long y1], h)) rfl ?_
      obtain rfl := Option.some.inj hF
      exact en_ret (by decide +kernel : u_at kl_58 41 = some (.lreturn, [])) rfl (hQ)
    · replace hF := i_neg b1 hF
      refine en_segs [(12, .lload_n 1, []), (13, .aload_n 0, [])] (by decide +kernel) (y := (14, [some (.ref a0), some (.long y1), none, some (.int x3)], [.ref a0, .long y1], h)) rfl ?_
      refine en_get (by decide +kernel : u_at kl_58 14 = some (.getfield 15, [6, 5])) hW ha0 (by decide) rfl ?_
      refine en_segs [(17, .iload_n 3, [])] (by decide +kernel) (y := (18, [some (.ref a0), some (.long y1), none, some (.int x3)], [.int x3, .ref (aP d 6 5 a0), .long y1], h)) rfl ?_
      obtain ⟨v2, hv2, hF⟩ := ob_some hF
      refine en_iald (by decide +kernel : u_at kl_58 18 = some (.iaload, [])) hW ha0 rfl (by decide) hv2 ?_
      refine en_segs [(19, .i2l, []), (20, .aload_n 0, [])] (by decide +kernel) (y := (21, [some (.ref a0), some (.long y1), none, some (.int x3)], [.ref a0, .long ((v2 : Int32).toInt64), .long y1], h)) rfl ?_
      refine en_get (by decide +kernel : u_at kl_58 21 = some (.getfield 27, [6, 9])) hW ha0 (by decide) rfl ?_
      refine en_segs [(24, .aload_n 0, [])] (by decide +kernel) (y := (25, [some (.ref a0), some (.long y1), none, some (.int x3)], [.ref a0, .ref (aP d 6 9 a0), .long ((v2 : Int32).toInt64), .long y1], h)) rfl ?_
      refine en_get (by decide +kernel : u_at kl_58 25 = some (.getfield 31, [6, 10])) hW ha0 (by decide) rfl ?_
      refine en_segs [(28, .iload_n 3, [])] (by decide +kernel) (y := (29, [some (.ref a0), some (.long y1), none, some (.int x3)], [.int x3, .ref (aP d 6 10 a0), .ref (aP d 6 9 a0), .long ((v2 : Int32).toInt64), .long y1], h)) rfl ?_
      obtain ⟨v3, hv3, hF⟩ := ob_some hF
      refine en_iald (by decide +kernel : u_at kl_58 29 = some (.iaload, [])) hW ha0 rfl (by decide) hv3 ?_
      obtain ⟨v4, hv4, hF⟩ := ob_some hF
      refine en_lald (by decide +kernel : u_at kl_58 30 = some (.laload, [])) hW ha0 rfl (by decide) hv4 ?_
      refine en_segs [(31, .lmul, []), (32, .ladd, []), (33, .lstore_n 1, []), (34, .iinc 3 1, []), (37, .goto (-33), [4])] (by decide +kernel) (y := (4, [some (.ref a0), some (.long (y1 + (((v2 : Int32).toInt64) * v4))), none, some (.int (x3 + 1))], [], h)) rfl ?_
      exact (ih _ _ _ _ _ hF) _ _ rfl rfl rfl rfl  _ hW _ hQ
def F_58 (c6 : Cl) (a0 : Nat) : Option Int64 :=
  G_58 c6 a0 0 [0] [0] []
set_option maxRecDepth 100000 in
set_option maxHeartbeats 4000000 in
/-- HeadCounts$Scene.sensed -/
theorem e_58 {D : Nat} {c0 c1 c2 c3 c4 c5 c6 c7 c8 c9 c10 c11 c12 c13 : Cl} {d : Ad} {h : UH} {a0 : Nat} {r : Int64} (hD : 1 ≤ D) (hW : HW (mkw c0 c1 c2 c3 c4 c5 c6 c7 c8 c9 c10 c11 c12 c13) d h) (ha0 : aK d a0 = (0, 6, 0)) (hF : F_58 c6 a0 = some r) : ∃ q, EX D 58 [.ref a0] h q ∧ q.1 = some (.long r) ∧ h = q.2 := by
  obtain ⟨D, rfl⟩ : ∃ E, D = E + 1 := ⟨D - 1, by omega⟩
  unfold F_58 at hF
  refine ex_in (kl := kl_58) (nL := 4) rfl (by decide +kernel) (Nat.le_of_ble_eq_true rfl) ?_
  obtain ⟨QQ, hQQ⟩ : ∃ QQ : UR → Prop, QQ = (fun q : UR => q.1 = some (.long r) ∧ h = q.2) := ⟨_, rfl⟩
  rw [← hQQ]
  have hQ : QQ (some (.long r), h) := by rw [hQQ]; exact ⟨rfl, rfl⟩
  clear hQQ
  show Ends (EX D) (u_at kl_58) (0, [some (.ref a0), none, none, none], [], h) QQ
  refine en_segs [(0, .lconst 0, []), (1, .lstore_n 1, []), (2, .iconst 0, []), (3, .istore_n 3, [])] (by decide +kernel) (y := (4, [some (.ref a0), some (.long 0), none, some (.int 0)], [], h)) rfl ?_
  exact (g_58 (D := D) hD ha0 _ _ _ _ _ hF) _ _ rfl rfl rfl rfl  _ hW _ hQ
def F_1 (c0 : Cl) (c1 : Cl) (c6 : Cl) (c8 : Cl) (a0 : Nat) (a1 : Nat) (p2 : Int32) (p3 : Int32) : Option (Cl × Cl) :=
  F_51 c1 c6 c8 (cR c0 0 a0) a1 >>= fun r2 =>
  F_61 r2 (cR c0 0 a0) p2 >>= fun r3 =>
  some (sI c0 4 a0 r3) >>= fun c0_4 =>
  some (sI c0_4 5 a0 p3) >>= fun c0_5 =>
  F_58 r2 (cR c0_5 0 a0) >>= fun r7 =>
  some (sJ c0_5 9 a0 r7) >>= fun c0_8 =>
  some (sI c0_8 8 a0 0) >>= fun c0_9 =>
  some (sI c0_9 1 a0 (-2)) >>= fun c0_10 =>
  some (sI c0_10 2 a0 (-2)) >>= fun c0_11 =>
  some (c0_11, r2)
set_option maxRecDepth 100000 in
set_option maxHeartbeats 4000000 in
/-- HeadCounts$Crossing.begin -/
theorem e_1 {D : Nat} {c0 c1 c2 c3 c4 c5 c6 c7 c8 c9 c10 c11 c12 c13 : Cl} {d : Ad} {h : UH} {a0 : Nat} {a1 : Nat} {p2 : Int32} {p3 : Int32} {r : (Cl × Cl)} (hD : 4 ≤ D) (hW : HW (mkw c0 c1 c2 c3 c4 c5 c6 c7 c8 c9 c10 c11 c12 c13) d h) (ha0 : aK d a0 = (0, 0, 0)) (ha1 : aK d a1 = (0, 8, 0)) (hF : F_1 c0 c1 c6 c8 a0 a1 p2 p3 = some r) : ∃ q, EX D 1 [.ref a0, .ref a1, .int p2, .int p3] h q ∧ q.1 = none ∧ HW (mkw r.1 c1 c2 c3 c4 c5 r.2 c7 c8 c9 c10 c11 c12 c13) d q.2 := by
  obtain ⟨D, rfl⟩ : ∃ E, D = E + 1 := ⟨D - 1, by omega⟩
  unfold F_1 at hF
  refine ex_in (kl := kl_1) (nL := 4) rfl (by decide +kernel) (Nat.le_of_ble_eq_true rfl) ?_
  obtain ⟨QQ, hQQ⟩ : ∃ QQ : UR → Prop, QQ = (fun q : UR => q.1 = none ∧ HW (mkw r.1 c1 c2 c3 c4 c5 r.2 c7 c8 c9 c10 c11 c12 c13) d q.2) := ⟨_, rfl⟩
  rw [← hQQ]
  have hQ : ∀ h' : UH, HW (mkw r.1 c1 c2 c3 c4 c5 r.2 c7 c8 c9 c10 c11 c12 c13) d h' → QQ (none, h') := fun h' p => by rw [hQQ]; exact ⟨rfl, p⟩
  clear hQQ
  show Ends (EX D) (u_at kl_1) (0, [some (.ref a0), some (.ref a1), some (.int p2), some (.int p3)], [], h) QQ
  refine en_segs [(0, .aload_n 0, [])] (by decide +kernel) (y := (1, [some (.ref a0), some (.ref a1), some (.int p2), some (.int p3)], [.ref a0], h)) rfl ?_
  have k1 : aK d (cR c0 0 a0) = (0, 6, 0) := wf_obj hW ha0 (by decide) rfl
  refine en_get (by decide +kernel : u_at kl_1 1 = some (.getfield 9, [0, 0])) hW ha0 (by decide) rfl ?_
  refine en_segs [(4, .aload_n 1, [])] (by decide +kernel) (y := (5, [some (.ref a0), some (.ref a1), some (.int p2), some (.int p3)], [.ref a1, .ref (cR c0 0 a0)], h)) rfl ?_
  obtain ⟨r2, hr2, hF⟩ := ob_some hF
  refine en_vv (r := []) (by decide +kernel : u_at kl_1 5 = some (.invokevirtual 15, [51, 1, 6])) hW k1 rfl rfl (Nat.le_of_ble_eq_true rfl) (e_51 (D := D) (by omega) hW k1 ha1 hr2) (fun h hW => ?_)
  have hW : HW (mkw c0 c1 c2 c3 c4 c5 r2 c7 c8 c9 c10 c11 c12 c13) d h := hW
  refine en_segs [(8, .aload_n 0, []), (9, .aload_n 0, [])] (by decide +kernel) (y := (10, [some (.ref a0), some (.ref a1), some (.int p2), some (.int p3)], [.ref a0, .ref a0], h)) rfl ?_
  refine en_get (by decide +kernel : u_at kl_1 10 = some (.getfield 9, [0, 0])) hW ha0 (by decide) rfl ?_
  refine en_segs [(13, .iload_n 2, [])] (by decide +kernel) (y := (14, [some (.ref a0), some (.ref a1), some (.int p2), some (.int p3)], [.int p2, .ref (cR c0 0 a0), .ref a0], h)) rfl ?_
  obtain ⟨r3, hr3, hF⟩ := ob_some hF
  refine en_vi (r := [.ref a0]) (by decide +kernel : u_at kl_1 14 = some (.invokevirtual 21, [61, 1, 6])) hW k1 rfl rfl (Nat.le_of_ble_eq_true rfl) (e_61 (D := D) (by omega) hW k1 hr3) (fun h' q => ?_)
  subst q
  obtain ⟨c0_4, hc0_4, hF⟩ := ob_some hF
  refine en_putI (by decide +kernel : u_at kl_1 17 = some (.putfield 25, [0, 4, 0])) hW ha0 rfl (by decide) rfl (fun h hW => ?_)
  have hW : HW (mkw c0_4 c1 c2 c3 c4 c5 r2 c7 c8 c9 c10 c11 c12 c13) d h := by rw [← Option.some.inj hc0_4]; exact hW
  refine en_segs [(20, .aload_n 0, []), (21, .iload_n 3, [])] (by decide +kernel) (y := (22, [some (.ref a0), some (.ref a1), some (.int p2), some (.int p3)], [.int p3, .ref a0], h)) rfl ?_
  obtain ⟨c0_5, hc0_5, hF⟩ := ob_some hF
  refine en_putI (by decide +kernel : u_at kl_1 22 = some (.putfield 29, [0, 5, 0])) hW ha0 rfl (by decide) rfl (fun h hW => ?_)
  have hW : HW (mkw c0_5 c1 c2 c3 c4 c5 r2 c7 c8 c9 c10 c11 c12 c13) d h := by rw [← Option.some.inj hc0_5]; exact hW
  refine en_segs [(25, .aload_n 0, []), (26, .aload_n 0, [])] (by decide +kernel) (y := (27, [some (.ref a0), some (.ref a1), some (.int p2), some (.int p3)], [.ref a0, .ref a0], h)) rfl ?_
  have k6 : aK d (cR c0_5 0 a0) = (0, 6, 0) := wf_obj hW ha0 (by decide) rfl
  refine en_get (by decide +kernel : u_at kl_1 27 = some (.getfield 9, [0, 0])) hW ha0 (by decide) rfl ?_
  obtain ⟨r7, hr7, hF⟩ := ob_some hF
  refine en_vl (r := [.ref a0]) (by decide +kernel : u_at kl_1 30 = some (.invokevirtual 32, [58, 0, 6])) hW k6 rfl rfl (Nat.le_of_ble_eq_true rfl) (e_58 (D := D) (by omega) hW k6 hr7) (fun h' q => ?_)
  subst q
  obtain ⟨c0_8, hc0_8, hF⟩ := ob_some hF
  refine en_putJ (by decide +kernel : u_at kl_1 33 = some (.putfield 36, [0, 9, 1])) hW ha0 rfl (by decide) rfl (fun h hW => ?_)
  have hW : HW (mkw c0_8 c1 c2 c3 c4 c5 r2 c7 c8 c9 c10 c11 c12 c13) d h := by rw [← Option.some.inj hc0_8]; exact hW
  refine en_segs [(36, .aload_n 0, []), (37, .iconst 0, [])] (by decide +kernel) (y := (38, [some (.ref a0), some (.ref a1), some (.int p2), some (.int p3)], [.int 0, .ref a0], h)) rfl ?_
  obtain ⟨c0_9, hc0_9, hF⟩ := ob_some hF
  refine en_putI (by decide +kernel : u_at kl_1 38 = some (.putfield 40, [0, 8, 2])) hW ha0 rfl (by decide) rfl (fun h hW => ?_)
  have hW : HW (mkw c0_9 c1 c2 c3 c4 c5 r2 c7 c8 c9 c10 c11 c12 c13) d h := by rw [← Option.some.inj hc0_9]; exact hW
  refine en_segs [(41, .aload_n 0, []), (42, .bipush (-2), [])] (by decide +kernel) (y := (44, [some (.ref a0), some (.ref a1), some (.int p2), some (.int p3)], [.int (-2), .ref a0], h)) rfl ?_
  obtain ⟨c0_10, hc0_10, hF⟩ := ob_some hF
  refine en_putI (by decide +kernel : u_at kl_1 44 = some (.putfield 44, [0, 1, 0])) hW ha0 rfl (by decide) rfl (fun h hW => ?_)
  have hW : HW (mkw c0_10 c1 c2 c3 c4 c5 r2 c7 c8 c9 c10 c11 c12 c13) d h := by rw [← Option.some.inj hc0_10]; exact hW
  refine en_segs [(47, .aload_n 0, []), (48, .bipush (-2), [])] (by decide +kernel) (y := (50, [some (.ref a0), some (.ref a1), some (.int p2), some (.int p3)], [.int (-2), .ref a0], h)) rfl ?_
  obtain ⟨c0_11, hc0_11, hF⟩ := ob_some hF
  refine en_putI (by decide +kernel : u_at kl_1 50 = some (.putfield 47, [0, 2, 0])) hW ha0 rfl (by decide) rfl (fun h hW => ?_)
  have hW : HW (mkw c0_11 c1 c2 c3 c4 c5 r2 c7 c8 c9 c10 c11 c12 c13) d h := by rw [← Option.some.inj hc0_11]; exact hW
  obtain rfl := Option.some.inj hF
  exact en_ret (by decide +kernel : u_at kl_1 53 = some (.return_, [])) rfl (hQ _ hW)
def G_7 (c0 : Cl) (c6 : Cl) (a0 : Nat) (lab : Nat) (xs : List Int32) (ys : List Int64) (zs : List Nat) : Option Int32 := match lab, xs, ys, zs with
  | 0, [x1], [], [] =>
    if (cI c6 0 (cR c0 0 a0)) ≤ x1 then
    some 1
    else
    ald (cA c6 11 (cR c0 0 a0)) 6 x1 >>= fun v3 =>
    ald (cA c6 7 (cR c0 0 a0)) 6 x1 >>= fun v4 =>
    if v3 ≤ v4 then
    G_7 c0 c6 a0 0 [x1 + 1] [] []
    else
    some 0
  | _, _, _, _ => none
partial_fixpoint
set_option maxRecDepth 100000 in
set_option maxHeartbeats 4000000 in
theorem g_7 {D : Nat} (hD : 1 ≤ D + 1) {c0 c1 c2 c3 c4 c5 c6 c7 c8 c9 c10 c11 c12 c13 : Cl} {d : Ad} {a0 : Nat} (ha0 : aK d a0 = (0, 0, 0)) : ∀ (lab : Nat) (xs : List Int32) (ys : List Int64) (zs : List Nat) (r : Int32), G_7 c0 c6 a0 lab xs ys zs = some r →
    (∀ (x1 : Int32), lab = 0 → xs = [x1] → ys = [] → zs = [] → ∀ h : UH, HW (mkw c0 c1 c2 c3 c4 c5 c6 c7 c8 c9 c10 c11 c12 c13) d h → ∀ QQ : UR → Prop, QQ (some (.int r), h) → Ends (EX D) (u_at kl_7) (2, [some (.ref a0), some (.int x1)], [], h) QQ) := by
  refine G_7.partial_correctness _ _ _ (motive := fun lab xs ys zs r =>
    (∀ (x1 : Int32), lab = 0 → xs = [x1] → ys = [] → zs = [] → ∀ h : UH, HW (mkw c0 c1 c2 c3 c4 c5 c6 c7 c8 c9 c10 c11 c12 c13) d h → ∀ QQ : UR → Prop, QQ (some (.int r), h) → Ends (EX D) (u_at kl_7) (2, [some (.ref a0), some (.int x1)], [], h) QQ)) ?_
  intro G ih lab xs ys zs r hF
  · intro x1 e1 e2 e3 e4 h hW QQ hQ
    subst e1 e2 e3 e4
    refine en_segs [(2, .iload_n 1, []), (3, .aload_n 0, [])] (by decide +kernel) (y := (4, [some (.ref a0), some (.int x1)], [.ref a0, .int x1], h)) rfl ?_
    have k1 : aK d (cR c0 0 a0) = (0, 6, 0) := wf_obj hW ha0 (by decide) rfl
    refine en_get (by decide +kernel : u_at kl_7 4 = some (.getfield 9, [0, 0])) hW ha0 (by decide) rfl ?_
    refine en_get (by decide +kernel : u_at kl_7 7 = some (.getfield 107, [6, 0])) hW k1 (by decide) rfl ?_
    refine en_ic_ge (by decide +kernel : u_at kl_7 10 = some (.if_icmp .ge 32, [42])) (fun b2 => ?_) (fun b2 => ?_)
    · replace hF := i_pos b2 hF
      refine en_segs [(42, .iconst 1, [])] (by decide +kernel) (y := (43, [some (.ref a0), some (.int x1)], [.int 1], h)) rfl ?_
      obtain rfl := Option.some.inj hF
      exact en_ret (by decide +kernel : u_at kl_7 43 = some (.ireturn, [1])) rfl (hQ)
    · replace hF := i_neg b2 hF
      refine en_segs [(13, .aload_n 0, [])] (by decide +kernel) (y := (14, [some (.ref a0), some (.int x1)], [.ref a0], h)) rfl ?_
      refine en_get (by decide +kernel : u_at kl_7 14 = some (.getfield 9, [0, 0])) hW ha0 (by decide) rfl ?_
      refine en_get (by decide +kernel : u_at kl_7 17 = some (.getfield 114, [6, 11])) hW k1 (by decide) rfl ?_
      refine en_segs [(20, .iload_n 1, [])] (by decide +kernel) (y := (21, [some (.ref a0), some (.int x1)], [.int x1, .ref (aP d 6 11 (cR c0 0 a0))], h)) rfl ?_
      obtain ⟨v3, hv3, hF⟩ := ob_some hF
      refine en_iald (by decide +kernel : u_at kl_7 21 = some (.iaload, [])) hW k1 rfl (by decide) hv3 ?_
      refine en_segs [(22, .aload_n 0, [])] (by decide +kernel) (y := (23, [some (.ref a0), some (.int x1)], [.ref a0, .int v3], h)) rfl ?_
      refine en_get (by decide +kernel : u_at kl_7 23 = some (.getfield 9, [0, 0])) hW ha0 (by decide) rfl ?_
      refine en_get (by decide +kernel : u_at kl_7 26 = some (.getfield 134, [6, 7])) hW k1 (by decide) rfl ?_
      refine en_segs [(29, .iload_n 1, [])] (by decide +kernel) (y := (30, [some (.ref a0), some (.int x1)], [.int x1, .ref (aP d 6 7 (cR c0 0 a0)), .int v3], h)) rfl ?_
      obtain ⟨v4, hv4, hF⟩ := ob_some hF
      refine en_iald (by decide +kernel : u_at kl_7 30 = some (.iaload, [])) hW k1 rfl (by decide) hv4 ?_
      refine en_ic_le (by decide +kernel : u_at kl_7 31 = some (.if_icmp .le 5, [36])) (fun b5 => ?_) (fun b5 => ?_)
      · replace hF := i_pos b5 hF
        refine en_segs [(36, .iinc 1 1, []), (39, .goto (-37), [2])] (by decide +kernel) (y := (2, [some (.ref a0), some (.int (x1 + 1))], [], h)) rfl ?_
        exact (ih _ _ _ _ _ hF) _ rfl rfl rfl rfl  _ hW _ hQ
      · replace hF := i_neg b5 hF
        refine en_segs [(34, .iconst 0, [])] (by decide +kernel) (y := (35, [some (.ref a0), some (.int x1)], [.int 0], h)) rfl ?_
        obtain rfl := Option.some.inj hF
        exact en_ret (by decide +kernel : u_at kl_7 35 = some (.ireturn, [1])) rfl (hQ)
def F_7 (c0 : Cl) (c6 : Cl) (a0 : Nat) : Option Int32 :=
  G_7 c0 c6 a0 0 [0] [] []
set_option maxRecDepth 100000 in
set_option maxHeartbeats 4000000 in
/-- HeadCounts$Crossing.isHeld -/
theorem e_7 {D : Nat} {c0 c1 c2 c3 c4 c5 c6 c7 c8 c9 c10 c11 c12 c13 : Cl} {d : Ad} {h : UH} {a0 : Nat} {r : Int32} (hD : 1 ≤ D) (hW : HW (mkw c0 c1 c2 c3 c4 c5 c6 c7 c8 c9 c10 c11 c12 c13) d h) (ha0 : aK d a0 = (0, 0, 0)) (hF : F_7 c0 c6 a0 = some r) : ∃ q, EX D 7 [.ref a0] h q ∧ q.1 = some (.int r) ∧ h = q.2 := by
  obtain ⟨D, rfl⟩ : ∃ E, D = E + 1 := ⟨D - 1, by omega⟩
  unfold F_7 at hF
  refine ex_in (kl := kl_7) (nL := 2) rfl (by decide +kernel) (Nat.le_of_ble_eq_true rfl) ?_
  obtain ⟨QQ, hQQ⟩ : ∃ QQ : UR → Prop, QQ = (fun q : UR => q.1 = some (.int r) ∧ h = q.2) := ⟨_, rfl⟩
  rw [← hQQ]
  have hQ : QQ (some (.int r), h) := by rw [hQQ]; exact ⟨rfl, rfl⟩
  clear hQQ
  show Ends (EX D) (u_at kl_7) (0, [some (.ref a0), none], [], h) QQ
  refine en_segs [(0, .iconst 0, []), (1, .istore_n 1, [])] (by decide +kernel) (y := (2, [some (.ref a0), some (.int 0)], [], h)) rfl ?_
  exact (g_7 (D := D) hD ha0 _ _ _ _ _ hF) _ rfl rfl rfl rfl  _ hW _ hQ
def F_8 (c0 : Cl) (c6 : Cl) (c13 : Cl) (d : Ad) (a0 : Nat) (p1 : Int32) (p2 : Int32) : Option (Cl × Cl) :=
  F_309 c6 c13 d (cR c0 0 a0) p1 >>= fun r2 =>
  if r2 = 0 then
  F_310 c6 (cR c0 0 a0) p1 (cI c0 4 a0) >>= fun r4 =>
  ((if r4 = (cI c0 5 a0) then
  some (sI c0 1 a0 ((cI c0 11 a0) + p2)) >>= fun c0_8 =>
  some (sI c0_8 8 a0 1) >>= fun c0_9 =>
  some (c0_9, c13)
  else
  if (cI c0 10 a0) < 1000 then
  F_307 c6 c13 d (cR c0 0 a0) p1 (((1 + (cI c0 11 a0)) + p2 : Int32).toInt64) (cI c0 10 a0) >>= fun r11 =>
  some (sI c0 10 a0 r11.1) >>= fun c0_12 =>
  some (c0_12, r11.2)
  else
  some (sI c0 1 a0 (-3)) >>= fun c0_13 =>
  some (sI c0_13 8 a0 1) >>= fun c0_14 =>
  some (c0_14, c13)) : Option (Cl × Cl)) >>= fun (t5 : Cl × Cl) =>
  some (t5.1, t5.2)
  else
  some (c0, c13)
set_option maxRecDepth 100000 in
set_option maxHeartbeats 4000000 in
/-- HeadCounts$Crossing.comeTo -/
theorem e_8 {D : Nat} {c0 c1 c2 c3 c4 c5 c6 c7 c8 c9 c10 c11 c12 c13 : Cl} {d : Ad} {h : UH} {a0 : Nat} {p1 : Int32} {p2 : Int32} {r : (Cl × Cl)} (hD : 3 ≤ D) (hW : HW (mkw c0 c1 c2 c3 c4 c5 c6 c7 c8 c9 c10 c11 c12 c13) d h) (ha0 : aK d a0 = (0, 0, 0)) (hF : F_8 c0 c6 c13 d a0 p1 p2 = some r) : ∃ q, EX D 8 [.ref a0, .int p1, .int p2] h q ∧ q.1 = none ∧ HW (mkw r.1 c1 c2 c3 c4 c5 c6 c7 c8 c9 c10 c11 c12 r.2) d q.2 := by
  obtain ⟨D, rfl⟩ : ∃ E, D = E + 1 := ⟨D - 1, by omega⟩
  unfold F_8 at hF
  refine ex_in (kl := kl_8) (nL := 3) rfl (by decide +kernel) (Nat.le_of_ble_eq_true rfl) ?_
  obtain ⟨QQ, hQQ⟩ : ∃ QQ : UR → Prop, QQ = (fun q : UR => q.1 = none ∧ HW (mkw r.1 c1 c2 c3 c4 c5 c6 c7 c8 c9 c10 c11 c12 r.2) d q.2) := ⟨_, rfl⟩
  rw [← hQQ]
  have hQ : ∀ h' : UH, HW (mkw r.1 c1 c2 c3 c4 c5 c6 c7 c8 c9 c10 c11 c12 r.2) d h' → QQ (none, h') := fun h' p => by rw [hQQ]; exact ⟨rfl, p⟩
  clear hQQ
  show Ends (EX D) (u_at kl_8) (0, [some (.ref a0), some (.int p1), some (.int p2)], [], h) QQ
  refine en_segs [(0, .aload_n 0, [])] (by decide +kernel) (y := (1, [some (.ref a0), some (.int p1), some (.int p2)], [.ref a0], h)) rfl ?_
  have k1 : aK d (cR c0 0 a0) = (0, 6, 0) := wf_obj hW ha0 (by decide) rfl
  refine en_get (by decide +kernel : u_at kl_8 1 = some (.getfield 9, [0, 0])) hW ha0 (by decide) rfl ?_
  refine en_segs [(4, .iload_n 1, [])] (by decide +kernel) (y := (5, [some (.ref a0), some (.int p1), some (.int p2)], [.int p1, .ref (cR c0 0 a0)], h)) rfl ?_
  obtain ⟨r2, hr2, hF⟩ := ob_some hF
  refine en_vi (r := []) (by decide +kernel : u_at kl_8 5 = some (.invokevirtual 137, [309, 1, 6])) hW k1 rfl rfl (Nat.le_of_ble_eq_true rfl) (e_309 (D := D) (by omega) hW k1 hr2) (fun h' q => ?_)
  subst q
  refine en_if_eq (by decide +kernel : u_at kl_8 8 = some (.ifCond .eq 4, [12])) (fun b3 => ?_) (fun b3 => ?_)
  · replace hF := i_pos b3 hF
    refine en_segs [(12, .aload_n 0, [])] (by decide +kernel) (y := (13, [some (.ref a0), some (.int p1), some (.int p2)], [.ref a0], h)) rfl ?_
    refine en_get (by decide +kernel : u_at kl_8 13 = some (.getfield 9, [0, 0])) hW ha0 (by decide) rfl ?_
    refine en_segs [(16, .iload_n 1, []), (17, .aload_n 0, [])] (by decide +kernel) (y := (18, [some (.ref a0), some (.int p1), some (.int p2)], [.ref a0, .int p1, .ref (cR c0 0 a0)], h)) rfl ?_
    refine en_get (by decide +kernel : u_at kl_8 18 = some (.getfield 25, [0, 4])) hW ha0 (by decide) rfl ?_
    obtain ⟨r4, hr4, hF⟩ := ob_some hF
    refine en_vi (r := []) (by decide +kernel : u_at kl_8 21 = some (.invokevirtual 141, [310, 2, 6])) hW k1 rfl rfl (Nat.le_of_ble_eq_true rfl) (e_310 (D := D) (by omega) hW k1 hr4) (fun h' q => ?_)
    subst q
    refine en_segs [(24, .aload_n 0, [])] (by decide +kernel) (y := (25, [some (.ref a0), some (.int p1), some (.int p2)], [.ref a0, .int r4], h)) rfl ?_
    refine en_get (by decide +kernel : u_at kl_8 25 = some (.getfield 29, [0, 5])) hW ha0 (by decide) rfl ?_
    obtain ⟨t5, hX, hK⟩ := ob_some hF
    have j6 : ∀ h : UH, HW (mkw t5.1 c1 c2 c3 c4 c5 c6 c7 c8 c9 c10 c11 c12 t5.2) d h → Ends (EX D) (u_at kl_8) (98, [some (.ref a0), some (.int p1), some (.int p2)], [], h) QQ := by
      intro h hW
      have hF := hK
      obtain rfl := Option.some.inj hF
      exact en_ret (by decide +kernel : u_at kl_8 98 = some (.return_, [])) rfl (hQ _ hW)
    have hF := hX
    refine en_ic_ne (by decide +kernel : u_at kl_8 28 = some (.if_icmp .ne 21, [49])) (fun b7 => ?_) (fun b7 => ?_)
    · replace hF := i_pos b7 hF
      refine en_segs [(31, .aload_n 0, []), (32, .aload_n 0, [])] (by decide +kernel) (y := (33, [some (.ref a0), some (.int p1), some (.int p2)], [.ref a0, .ref a0], h)) rfl ?_
      refine en_get (by decide +kernel : u_at kl_8 33 = some (.getfield 97, [0, 11])) hW ha0 (by decide) rfl ?_
      refine en_segs [(36, .iload_n 2, []), (37, .iadd, [])] (by decide +kernel) (y := (38, [some (.ref a0), some (.int p1), some (.int p2)], [.int ((cI c0 11 a0) + p2), .ref a0], h)) rfl ?_
      obtain ⟨c0_8, hc0_8, hF⟩ := ob_some hF
      refine en_putI (by decide +kernel : u_at kl_8 38 = some (.putfield 44, [0, 1, 0])) hW ha0 rfl (by decide) rfl (fun h hW => ?_)
      have hW : HW (mkw c0_8 c1 c2 c3 c4 c5 c6 c7 c8 c9 c10 c11 c12 c13) d h := by rw [← Option.some.inj hc0_8]; exact hW
      refine en_segs [(41, .aload_n 0, []), (42, .iconst 1, [])] (by decide +kernel) (y := (43, [some (.ref a0), some (.int p1), some (.int p2)], [.int 1, .ref a0], h)) rfl ?_
      obtain ⟨c0_9, hc0_9, hF⟩ := ob_some hF
      refine en_putI (by decide +kernel : u_at kl_8 43 = some (.putfield 40, [0, 8, 2])) hW ha0 rfl (by decide) rfl (fun h hW => ?_)
      have hW : HW (mkw c0_9 c1 c2 c3 c4 c5 c6 c7 c8 c9 c10 c11 c12 c13) d h := by rw [← Option.some.inj hc0_9]; exact hW
      refine en_segs [(46, .goto 52, [98])] (by decide +kernel) (y := (98, [some (.ref a0), some (.int p1), some (.int p2)], [], h)) rfl ?_
      obtain rfl := Option.some.inj hF
      exact j6 _ hW
    · replace hF := i_neg b7 hF
      refine en_segs [(49, .aload_n 0, [])] (by decide +kernel) (y := (50, [some (.ref a0), some (.int p1), some (.int p2)], [.ref a0], h)) rfl ?_
      refine en_get (by decide +kernel : u_at kl_8 50 = some (.getfield 87, [0, 10])) hW ha0 (by decide) rfl ?_
      refine en_segs [(53, .sipush 1000, [])] (by decide +kernel) (y := (56, [some (.ref a0), some (.int p1), some (.int p2)], [.int 1000, .int (cI c0 10 a0)], h)) rfl ?_
      refine en_ic_lt (by decide +kernel : u_at kl_8 56 = some (.if_icmp .lt 17, [73])) (fun b10 => ?_) (fun b10 => ?_)
      · replace hF := i_pos b10 hF
        refine en_segs [(73, .aload_n 0, []), (74, .aload_n 0, [])] (by decide +kernel) (y := (75, [some (.ref a0), some (.int p1), some (.int p2)], [.ref a0, .ref a0], h)) rfl ?_
        refine en_get (by decide +kernel : u_at kl_8 75 = some (.getfield 9, [0, 0])) hW ha0 (by decide) rfl ?_
        refine en_segs [(78, .iload_n 1, []), (79, .iconst 1, []), (80, .aload_n 0, [])] (by decide +kernel) (y := (81, [some (.ref a0), some (.int p1), some (.int p2)], [.ref a0, .int 1, .int p1, .ref (cR c0 0 a0), .ref a0], h)) rfl ?_
        refine en_get (by decide +kernel : u_at kl_8 81 = some (.getfield 97, [0, 11])) hW ha0 (by decide) rfl ?_
        refine en_segs [(84, .iadd, []), (85, .iload_n 2, []), (86, .iadd, []), (87, .i2l, []), (88, .aload_n 0, [])] (by decide +kernel) (y := (89, [some (.ref a0), some (.int p1), some (.int p2)], [.ref a0, .long (((1 + (cI c0 11 a0)) + p2 : Int32).toInt64), .int p1, .ref (cR c0 0 a0), .ref a0], h)) rfl ?_
        refine en_get (by decide +kernel : u_at kl_8 89 = some (.getfield 87, [0, 10])) hW ha0 (by decide) rfl ?_
        obtain ⟨r11, hr11, hF⟩ := ob_some hF
        refine en_vi (r := [.ref a0]) (by decide +kernel : u_at kl_8 92 = some (.invokevirtual 145, [307, 3, 6])) hW k1 rfl rfl (Nat.le_of_ble_eq_true rfl) (e_307 (D := D) (by omega) hW k1 hr11) (fun h hW => ?_)
        have hW : HW (mkw c0 c1 c2 c3 c4 c5 c6 c7 c8 c9 c10 c11 c12 r11.2) d h := hW
        obtain ⟨c0_12, hc0_12, hF⟩ := ob_some hF
        refine en_putI (by decide +kernel : u_at kl_8 95 = some (.putfield 87, [0, 10, 0])) hW ha0 rfl (by decide) rfl (fun h hW => ?_)
        have hW : HW (mkw c0_12 c1 c2 c3 c4 c5 c6 c7 c8 c9 c10 c11 c12 r11.2) d h := by rw [← Option.some.inj hc0_12]; exact hW
        obtain rfl := Option.some.inj hF
        exact j6 _ hW
      · replace hF := i_neg b10 hF
        refine en_segs [(59, .aload_n 0, []), (60, .bipush (-3), [])] (by decide +kernel) (y := (62, [some (.ref a0), some (.int p1), some (.int p2)], [.int (-3), .ref a0], h)) rfl ?_
        obtain ⟨c0_13, hc0_13, hF⟩ := ob_some hF
        refine en_putI (by decide +kernel : u_at kl_8 62 = some (.putfield 44, [0, 1, 0])) hW ha0 rfl (by decide) rfl (fun h hW => ?_)
        have hW : HW (mkw c0_13 c1 c2 c3 c4 c5 c6 c7 c8 c9 c10 c11 c12 c13) d h := by rw [← Option.some.inj hc0_13]; exact hW
        refine en_segs [(65, .aload_n 0, []), (66, .iconst 1, [])] (by decide +kernel) (y := (67, [some (.ref a0), some (.int p1), some (.int p2)], [.int 1, .ref a0], h)) rfl ?_
        obtain ⟨c0_14, hc0_14, hF⟩ := ob_some hF
        refine en_putI (by decide +kernel : u_at kl_8 67 = some (.putfield 40, [0, 8, 2])) hW ha0 rfl (by decide) rfl (fun h hW => ?_)
        have hW : HW (mkw c0_14 c1 c2 c3 c4 c5 c6 c7 c8 c9 c10 c11 c12 c13) d h := by rw [← Option.some.inj hc0_14]; exact hW
        refine en_segs [(70, .goto 28, [98])] (by decide +kernel) (y := (98, [some (.ref a0), some (.int p1), some (.int p2)], [], h)) rfl ?_
        obtain rfl := Option.some.inj hF
        exact j6 _ hW
  · replace hF := i_neg b3 hF
    obtain rfl := Option.some.inj hF
    exact en_ret (by decide +kernel : u_at kl_8 11 = some (.return_, [])) rfl (hQ _ hW)
def F_6 (c0 : Cl) (c6 : Cl) (c13 : Cl) (d : Ad) (a0 : Nat) (p1 : Int32) (p2 : Int32) (p3 : Int64) : Option (Cl × Cl) :=
  if p2 = 0 then
  some (c0, c13)
  else
  if (cI c0 6 a0) < p2 then
  some (c0, c13)
  else
  if (lg_cmp p3 (cJ c0 9 a0)) = 0 then
  F_7 c0 c6 a0 >>= fun r4 =>
  if r4 = 0 then
  some (c0, c13)
  else
  ((if (cI c0 7 a0) = 0 then
  some (sI c0 1 a0 p2) >>= fun c0_9 =>
  some (sI c0_9 3 a0 p1) >>= fun c0_10 =>
  some (sI c0_10 6 a0 (p2 - 1)) >>= fun c0_11 =>
  some (c0_11, c13)
  else
  F_8 c0 c6 c13 d a0 p1 p2 >>= fun r12 =>
  some (r12.1, r12.2)) : Option (Cl × Cl)) >>= fun (t6 : Cl × Cl) =>
  some (t6.1, t6.2)
  else
  some (c0, c13)
set_option maxRecDepth 100000 in
set_option maxHeartbeats 4000000 in
/-- HeadCounts$Crossing.arrive -/
theorem e_6 {D : Nat} {c0 c1 c2 c3 c4 c5 c6 c7 c8 c9 c10 c11 c12 c13 : Cl} {d : Ad} {h : UH} {a0 : Nat} {p1 : Int32} {p2 : Int32} {p3 : Int64} {r : (Cl × Cl)} (hD : 4 ≤ D) (hW : HW (mkw c0 c1 c2 c3 c4 c5 c6 c7 c8 c9 c10 c11 c12 c13) d h) (ha0 : aK d a0 = (0, 0, 0)) (hF : F_6 c0 c6 c13 d a0 p1 p2 p3 = some r) : ∃ q, EX D 6 [.ref a0, .int p1, .int p2, .long p3] h q ∧ q.1 = none ∧ HW (mkw r.1 c1 c2 c3 c4 c5 c6 c7 c8 c9 c10 c11 c12 r.2) d q.2 := by
  obtain ⟨D, rfl⟩ : ∃ E, D = E + 1 := ⟨D - 1, by omega⟩
  unfold F_6 at hF
  refine ex_in (kl := kl_6) (nL := 5) rfl (by decide +kernel) (Nat.le_of_ble_eq_true rfl) ?_
  obtain ⟨QQ, hQQ⟩ : ∃ QQ : UR → Prop, QQ = (fun q : UR => q.1 = none ∧ HW (mkw r.1 c1 c2 c3 c4 c5 c6 c7 c8 c9 c10 c11 c12 r.2) d q.2) := ⟨_, rfl⟩
  rw [← hQQ]
  have hQ : ∀ h' : UH, HW (mkw r.1 c1 c2 c3 c4 c5 c6 c7 c8 c9 c10 c11 c12 r.2) d h' → QQ (none, h') := fun h' p => by rw [hQQ]; exact ⟨rfl, p⟩
  clear hQQ
  show Ends (EX D) (u_at kl_6) (0, [some (.ref a0), some (.int p1), some (.int p2), some (.long p3), none], [], h) QQ
  refine en_segs [(0, .iload_n 2, [])] (by decide +kernel) (y := (1, [some (.ref a0), some (.int p1), some (.int p2), some (.long p3), none], [.int p2], h)) rfl ?_
  refine en_if_eq (by decide +kernel : u_at kl_6 1 = some (.ifCond .eq 27, [28])) (fun b1 => ?_) (fun b1 => ?_)
  · replace hF := i_pos b1 hF
    obtain rfl := Option.some.inj hF
    exact en_ret (by decide +kernel : u_at kl_6 28 = some (.return_, [])) rfl (hQ _ hW)
  · replace hF := i_neg b1 hF
    refine en_segs [(4, .iload_n 2, []), (5, .aload_n 0, [])] (by decide +kernel) (y := (6, [some (.ref a0), some (.int p1), some (.int p2), some (.long p3), none], [.ref a0, .int p2], h)) rfl ?_
    refine en_get (by decide +kernel : u_at kl_6 6 = some (.getfield 60, [0, 6])) hW ha0 (by decide) rfl ?_
    refine en_ic_gt (by decide +kernel : u_at kl_6 9 = some (.if_icmp .gt 19, [28])) (fun b2 => ?_) (fun b2 => ?_)
    · replace hF := i_pos b2 hF
      obtain rfl := Option.some.inj hF
      exact en_ret (by decide +kernel : u_at kl_6 28 = some (.return_, [])) rfl (hQ _ hW)
    · replace hF := i_neg b2 hF
      refine en_segs [(12, .lload_n 3, []), (13, .aload_n 0, [])] (by decide +kernel) (y := (14, [some (.ref a0), some (.int p1), some (.int p2), some (.long p3), none], [.ref a0, .long p3], h)) rfl ?_
      refine en_get (by decide +kernel : u_at kl_6 14 = some (.getfield 36, [0, 9])) hW ha0 (by decide) rfl ?_
      refine en_segs [(17, .lcmp, [])] (by decide +kernel) (y := (18, [some (.ref a0), some (.int p1), some (.int p2), some (.long p3), none], [.int (lg_cmp p3 (cJ c0 9 a0))], h)) rfl ?_
      refine en_if_ne (by decide +kernel : u_at kl_6 18 = some (.ifCond .ne 10, [28])) (fun b3 => ?_) (fun b3 => ?_)
      · replace hF := i_pos b3 hF
        refine en_segs [(21, .aload_n 0, [])] (by decide +kernel) (y := (22, [some (.ref a0), some (.int p1), some (.int p2), some (.long p3), none], [.ref a0], h)) rfl ?_
        obtain ⟨r4, hr4, hF⟩ := ob_some hF
        refine en_vi (r := []) (by decide +kernel : u_at kl_6 22 = some (.invokevirtual 126, [7, 0, 0])) hW ha0 rfl rfl (Nat.le_of_ble_eq_true rfl) (e_7 (D := D) (by omega) hW ha0 hr4) (fun h' q => ?_)
        subst q
        refine en_if_ne (by decide +kernel : u_at kl_6 25 = some (.ifCond .ne 4, [29])) (fun b5 => ?_) (fun b5 => ?_)
        · replace hF := i_pos b5 hF
          obtain rfl := Option.some.inj hF
          exact en_ret (by decide +kernel : u_at kl_6 28 = some (.return_, [])) rfl (hQ _ hW)
        · replace hF := i_neg b5 hF
          refine en_segs [(29, .aload_n 0, [])] (by decide +kernel) (y := (30, [some (.ref a0), some (.int p1), some (.int p2), some (.long p3), none], [.ref a0], h)) rfl ?_
          refine en_get (by decide +kernel : u_at kl_6 30 = some (.getfield 54, [0, 7])) hW ha0 (by decide) rfl ?_
          obtain ⟨t6, hX, hK⟩ := ob_some hF
          have j7 : ∀ h : UH, HW (mkw t6.1 c1 c2 c3 c4 c5 c6 c7 c8 c9 c10 c11 c12 t6.2) d h → Ends (EX D) (u_at kl_6) (62, [some (.ref a0), some (.int p1), some (.int p2), some (.long p3), none], [], h) QQ := by
            intro h hW
            have hF := hK
            obtain rfl := Option.some.inj hF
            exact en_ret (by decide +kernel : u_at kl_6 62 = some (.return_, [])) rfl (hQ _ hW)
          have hF := hX
          refine en_if_eq (by decide +kernel : u_at kl_6 33 = some (.ifCond .eq 12, [45])) (fun b8 => ?_) (fun b8 => ?_)
          · replace hF := i_pos b8 hF
            refine en_segs [(45, .aload_n 0, []), (46, .iload_n 2, [])] (by decide +kernel) (y := (47, [some (.ref a0), some (.int p1), some (.int p2), some (.long p3), none], [.int p2, .ref a0], h)) rfl ?_
            obtain ⟨c0_9, hc0_9, hF⟩ := ob_some hF
            refine en_putI (by decide +kernel : u_at kl_6 47 = some (.putfield 44, [0, 1, 0])) hW ha0 rfl (by decide) rfl (fun h hW => ?_)
            have hW : HW (mkw c0_9 c1 c2 c3 c4 c5 c6 c7 c8 c9 c10 c11 c12 c13) d h := by rw [← Option.some.inj hc0_9]; exact hW
            refine en_segs [(50, .aload_n 0, []), (51, .iload_n 1, [])] (by decide +kernel) (y := (52, [some (.ref a0), some (.int p1), some (.int p2), some (.long p3), none], [.int p1, .ref a0], h)) rfl ?_
            obtain ⟨c0_10, hc0_10, hF⟩ := ob_some hF
            refine en_putI (by decide +kernel : u_at kl_6 52 = some (.putfield 66, [0, 3, 0])) hW ha0 rfl (by decide) rfl (fun h hW => ?_)
            have hW : HW (mkw c0_10 c1 c2 c3 c4 c5 c6 c7 c8 c9 c10 c11 c12 c13) d h := by rw [← Option.some.inj hc0_10]; exact hW
            refine en_segs [(55, .aload_n 0, []), (56, .iload_n 2, []), (57, .iconst 1, []), (58, .isub, [])] (by decide +kernel) (y := (59, [some (.ref a0), some (.int p1), some (.int p2), some (.long p3), none], [.int (p2 - 1), .ref a0], h)) rfl ?_
            obtain ⟨c0_11, hc0_11, hF⟩ := ob_some hF
            refine en_putI (by decide +kernel : u_at kl_6 59 = some (.putfield 60, [0, 6, 0])) hW ha0 rfl (by decide) rfl (fun h hW => ?_)
            have hW : HW (mkw c0_11 c1 c2 c3 c4 c5 c6 c7 c8 c9 c10 c11 c12 c13) d h := by rw [← Option.some.inj hc0_11]; exact hW
            obtain rfl := Option.some.inj hF
            exact j7 _ hW
          · replace hF := i_neg b8 hF
            refine en_segs [(36, .aload_n 0, []), (37, .iload_n 1, []), (38, .iload_n 2, [])] (by decide +kernel) (y := (39, [some (.ref a0), some (.int p1), some (.int p2), some (.long p3), none], [.int p2, .int p1, .ref a0], h)) rfl ?_
            obtain ⟨r12, hr12, hF⟩ := ob_some hF
            refine en_vv (r := []) (by decide +kernel : u_at kl_6 39 = some (.invokevirtual 130, [8, 2, 0])) hW ha0 rfl rfl (Nat.le_of_ble_eq_true rfl) (e_8 (D := D) (by omega) hW ha0 hr12) (fun h hW => ?_)
            have hW : HW (mkw r12.1 c1 c2 c3 c4 c5 c6 c7 c8 c9 c10 c11 c12 r12.2) d h := hW
            refine en_segs [(42, .goto 20, [62])] (by decide +kernel) (y := (62, [some (.ref a0), some (.int p1), some (.int p2), some (.long p3), none], [], h)) rfl ?_
            obtain rfl := Option.some.inj hF
            exact j7 _ hW
      · replace hF := i_neg b3 hF
        obtain rfl := Option.some.inj hF
        exact en_ret (by decide +kernel : u_at kl_6 28 = some (.return_, [])) rfl (hQ _ hW)
def F_59 (c6 : Cl) (a0 : Nat) (p1 : Int32) (p2 : Int32) : Option Int32 :=
  ald (cA c6 8 a0) 6 p1 >>= fun v1 =>
  ((if ((v1 >>> (p2 &&& 31)) &&& 1) = 1 then
  some 1
  else
  some 0) : Option (Int32)) >>= fun (t2 : Int32) =>
  zb t2 >>= fun z4 => some z4
set_option maxRecDepth 100000 in
set_option maxHeartbeats 4000000 in
/-- HeadCounts$Scene.isLinked -/
theorem e_59 {D : Nat} {c0 c1 c2 c3 c4 c5 c6 c7 c8 c9 c10 c11 c12 c13 : Cl} {d : Ad} {h : UH} {a0 : Nat} {p1 : Int32} {p2 : Int32} {r : Int32} (hD : 1 ≤ D) (hW : HW (mkw c0 c1 c2 c3 c4 c5 c6 c7 c8 c9 c10 c11 c12 c13) d h) (ha0 : aK d a0 = (0, 6, 0)) (hF : F_59 c6 a0 p1 p2 = some r) : ∃ q, EX D 59 [.ref a0, .int p1, .int p2] h q ∧ q.1 = some (.int r) ∧ h = q.2 := by
  obtain ⟨D, rfl⟩ : ∃ E, D = E + 1 := ⟨D - 1, by omega⟩
  unfold F_59 at hF
  refine ex_in (kl := kl_59) (nL := 3) rfl (by decide +kernel) (Nat.le_of_ble_eq_true rfl) ?_
  obtain ⟨QQ, hQQ⟩ : ∃ QQ : UR → Prop, QQ = (fun q : UR => q.1 = some (.int r) ∧ h = q.2) := ⟨_, rfl⟩
  rw [← hQQ]
  have hQ : QQ (some (.int r), h) := by rw [hQQ]; exact ⟨rfl, rfl⟩
  clear hQQ
  show Ends (EX D) (u_at kl_59) (0, [some (.ref a0), some (.int p1), some (.int p2)], [], h) QQ
  refine en_segs [(0, .aload_n 0, [])] (by decide +kernel) (y := (1, [some (.ref a0), some (.int p1), some (.int p2)], [.ref a0], h)) rfl ?_
  refine en_get (by decide +kernel : u_at kl_59 1 = some (.getfield 24, [6, 8])) hW ha0 (by decide) rfl ?_
  refine en_segs [(4, .iload_n 1, [])] (by decide +kernel) (y := (5, [some (.ref a0), some (.int p1), some (.int p2)], [.int p1, .ref (aP d 6 8 a0)], h)) rfl ?_
  obtain ⟨v1, hv1, hF⟩ := ob_some hF
  refine en_iald (by decide +kernel : u_at kl_59 5 = some (.iaload, [])) hW ha0 rfl (by decide) hv1 ?_
  refine en_segs [(6, .iload_n 2, []), (7, .ishr, []), (8, .iconst 1, []), (9, .iand, []), (10, .iconst 1, [])] (by decide +kernel) (y := (11, [some (.ref a0), some (.int p1), some (.int p2)], [.int 1, .int ((v1 >>> (p2 &&& 31)) &&& 1)], h)) rfl ?_
  obtain ⟨t2, hX, hK⟩ := ob_some hF
  have j3 : Ends (EX D) (u_at kl_59) (19, [some (.ref a0), some (.int p1), some (.int p2)], [.int t2], h) QQ := by
    have hF := hK
    obtain ⟨z4, hz4, hF⟩ := ob_some hF
    obtain rfl := Option.some.inj hF
    exact en_retZ (by decide +kernel : u_at kl_59 19 = some (.ireturn, [1])) hz4 (hQ)
  have hF := hX
  refine en_ic_ne (by decide +kernel : u_at kl_59 11 = some (.if_icmp .ne 7, [18])) (fun b5 => ?_) (fun b5 => ?_)
  · replace hF := i_pos b5 hF
    refine en_segs [(14, .iconst 1, []), (15, .goto 4, [19])] (by decide +kernel) (y := (19, [some (.ref a0), some (.int p1), some (.int p2)], [.int 1], h)) rfl ?_
    obtain rfl := Option.some.inj hF
    exact j3
  · replace hF := i_neg b5 hF
    refine en_segs [(18, .iconst 0, [])] (by decide +kernel) (y := (19, [some (.ref a0), some (.int p1), some (.int p2)], [.int 0], h)) rfl ?_
    obtain rfl := Option.some.inj hF
    exact j3
def G_3 (c0 : Cl) (c6 : Cl) (a0 : Nat) (lab : Nat) (xs : List Int32) (ys : List Int64) (zs : List Nat) : Option (Int32 × Cl) := match lab, xs, ys, zs with
  | 0, [x1, x2], [], [] =>
    if (cI c6 1 (cR c0 0 a0)) ≤ x2 then
    some ((-1), c6)
    else
    ald (cA c6 4 (cR c0 0 a0)) 6 x2 >>= fun v5 =>
    if v5 = x1 then
    ald (cA c6 10 (cR c0 0 a0)) 6 x2 >>= fun v7 =>
    some (v7, c6)
    else
    G_3 c0 c6 a0 0 [x1, x2 + 1] [] []
  | _, _, _, _ => none
partial_fixpoint
set_option maxRecDepth 100000 in
set_option maxHeartbeats 4000000 in
theorem g_3 {D : Nat} (hD : 3 ≤ D + 1) {c0 c1 c2 c3 c4 c5 c6 c7 c8 c9 c10 c11 c12 c13 : Cl} {d : Ad} {a0 : Nat} (ha0 : aK d a0 = (0, 0, 0)) : ∀ (lab : Nat) (xs : List Int32) (ys : List Int64) (zs : List Nat) (r : (Int32 × Cl)), G_3 c0 c6 a0 lab xs ys zs = some r →
    (∀ (x1 : Int32) (x2 : Int32), lab = 0 → xs = [x1, x2] → ys = [] → zs = [] → ∀ h : UH, HW (mkw c0 c1 c2 c3 c4 c5 c6 c7 c8 c9 c10 c11 c12 c13) d h → ∀ QQ : UR → Prop, (∀ h' : UH, HW (mkw c0 c1 c2 c3 c4 c5 r.2 c7 c8 c9 c10 c11 c12 c13) d h' → QQ (some (.int r.1), h')) → Ends (EX D) (u_at kl_3) (13, [some (.ref a0), some (.int x1), some (.int x2)], [], h) QQ) := by
  refine G_3.partial_correctness _ _ _ (motive := fun lab xs ys zs r =>
    (∀ (x1 : Int32) (x2 : Int32), lab = 0 → xs = [x1, x2] → ys = [] → zs = [] → ∀ h : UH, HW (mkw c0 c1 c2 c3 c4 c5 c6 c7 c8 c9 c10 c11 c12 c13) d h → ∀ QQ : UR → Prop, (∀ h' : UH, HW (mkw c0 c1 c2 c3 c4 c5 r.2 c7 c8 c9 c10 c11 c12 c13) d h' → QQ (some (.int r.1), h')) → Ends (EX D) (u_at kl_3) (13, [some (.ref a0), some (.int x1), some (.int x2)], [], h) QQ)) ?_
  intro G ih lab xs ys zs r hF
  · intro x1 x2 e1 e2 e3 e4 h hW QQ hQ
    subst e1 e2 e3 e4
    refine en_segs [(13, .iload_n 2, []), (14, .aload_n 0, [])] (by decide +kernel) (y := (15, [some (.ref a0), some (.int x1), some (.int x2)], [.ref a0, .int x2], h)) rfl ?_
    have k3 : aK d (cR c0 0 a0) = (0, 6, 0) := wf_obj hW ha0 (by decide) rfl
    refine en_get (by decide +kernel : u_at kl_3 15 = some (.getfield 9, [0, 0])) hW ha0 (by decide) rfl ?_
    refine en_get (by decide +kernel : u_at kl_3 18 = some (.getfield 57, [6, 1])) hW k3 (by decide) rfl ?_
    refine en_ic_ge (by decide +kernel : u_at kl_3 21 = some (.if_icmp .ge 32, [53])) (fun b4 => ?_) (fun b4 => ?_)
    · replace hF := i_pos b4 hF
      refine en_segs [(53, .iconst (-1), [])] (by decide +kernel) (y := (54, [some (.ref a0), some (.int x1), some (.int x2)], [.int (-1)], h)) rfl ?_
      obtain rfl := Option.some.inj hF
      exact en_ret (by decide +kernel : u_at kl_3 54 = some (.ireturn, [0])) rfl (hQ _ hW)
    · replace hF := i_neg b4 hF
      refine en_segs [(24, .aload_n 0, [])] (by decide +kernel) (y := (25, [some (.ref a0), some (.int x1), some (.int x2)], [.ref a0], h)) rfl ?_
      refine en_get (by decide +kernel : u_at kl_3 25 = some (.getfield 9, [0, 0])) hW ha0 (by decide) rfl ?_
      refine en_get (by decide +kernel : u_at kl_3 28 = some (.getfield 77, [6, 4])) hW k3 (by decide) rfl ?_
      refine en_segs [(31, .iload_n 2, [])] (by decide +kernel) (y := (32, [some (.ref a0), some (.int x1), some (.int x2)], [.int x2, .ref (aP d 6 4 (cR c0 0 a0))], h)) rfl ?_
      obtain ⟨v5, hv5, hF⟩ := ob_some hF
      refine en_iald (by decide +kernel : u_at kl_3 32 = some (.iaload, [])) hW k3 rfl (by decide) hv5 ?_
      refine en_segs [(33, .iload_n 1, [])] (by decide +kernel) (y := (34, [some (.ref a0), some (.int x1), some (.int x2)], [.int x1, .int v5], h)) rfl ?_
      refine en_ic_ne (by decide +kernel : u_at kl_3 34 = some (.if_icmp .ne 13, [47])) (fun b6 => ?_) (fun b6 => ?_)
      · replace hF := i_pos b6 hF
        refine en_segs [(37, .aload_n 0, [])] (by decide +kernel) (y := (38, [some (.ref a0), some (.int x1), some (.int x2)], [.ref a0], h)) rfl ?_
        refine en_get (by decide +kernel : u_at kl_3 38 = some (.getfield 9, [0, 0])) hW ha0 (by decide) rfl ?_
        refine en_get (by decide +kernel : u_at kl_3 41 = some (.getfield 81, [6, 10])) hW k3 (by decide) rfl ?_
        refine en_segs [(44, .iload_n 2, [])] (by decide +kernel) (y := (45, [some (.ref a0), some (.int x1), some (.int x2)], [.int x2, .ref (aP d 6 10 (cR c0 0 a0))], h)) rfl ?_
        obtain ⟨v7, hv7, hF⟩ := ob_some hF
        refine en_iald (by decide +kernel : u_at kl_3 45 = some (.iaload, [])) hW k3 rfl (by decide) hv7 ?_
        obtain rfl := Option.some.inj hF
        exact en_ret (by decide +kernel : u_at kl_3 46 = some (.ireturn, [0])) rfl (hQ _ hW)
      · replace hF := i_neg b6 hF
        refine en_segs [(47, .iinc 2 1, []), (50, .goto (-37), [13])] (by decide +kernel) (y := (13, [some (.ref a0), some (.int x1), some (.int (x2 + 1))], [], h)) rfl ?_
        exact (ih _ _ _ _ _ hF) _ _ rfl rfl rfl rfl  _ hW _ hQ
def F_3 (c0 : Cl) (c6 : Cl) (a0 : Nat) (p1 : Int32) : Option (Int32 × Cl) :=
  F_57 c6 (cR c0 0 a0) (cI c0 3 a0) >>= fun r2 =>
  G_3 c0 r2 a0 0 [p1, 0] [] []
set_option maxRecDepth 100000 in
set_option maxHeartbeats 4000000 in
/-- HeadCounts$Crossing.roomBehind -/
theorem e_3 {D : Nat} {c0 c1 c2 c3 c4 c5 c6 c7 c8 c9 c10 c11 c12 c13 : Cl} {d : Ad} {h : UH} {a0 : Nat} {p1 : Int32} {r : (Int32 × Cl)} (hD : 3 ≤ D) (hW : HW (mkw c0 c1 c2 c3 c4 c5 c6 c7 c8 c9 c10 c11 c12 c13) d h) (ha0 : aK d a0 = (0, 0, 0)) (hF : F_3 c0 c6 a0 p1 = some r) : ∃ q, EX D 3 [.ref a0, .int p1] h q ∧ q.1 = some (.int r.1) ∧ HW (mkw c0 c1 c2 c3 c4 c5 r.2 c7 c8 c9 c10 c11 c12 c13) d q.2 := by
  obtain ⟨D, rfl⟩ : ∃ E, D = E + 1 := ⟨D - 1, by omega⟩
  unfold F_3 at hF
  refine ex_in (kl := kl_3) (nL := 3) rfl (by decide +kernel) (Nat.le_of_ble_eq_true rfl) ?_
  obtain ⟨QQ, hQQ⟩ : ∃ QQ : UR → Prop, QQ = (fun q : UR => q.1 = some (.int r.1) ∧ HW (mkw c0 c1 c2 c3 c4 c5 r.2 c7 c8 c9 c10 c11 c12 c13) d q.2) := ⟨_, rfl⟩
  rw [← hQQ]
  have hQ : ∀ h' : UH, HW (mkw c0 c1 c2 c3 c4 c5 r.2 c7 c8 c9 c10 c11 c12 c13) d h' → QQ (some (.int r.1), h') := fun h' p => by rw [hQQ]; exact ⟨rfl, p⟩
  clear hQQ
  show Ends (EX D) (u_at kl_3) (0, [some (.ref a0), some (.int p1), none], [], h) QQ
  refine en_segs [(0, .aload_n 0, [])] (by decide +kernel) (y := (1, [some (.ref a0), some (.int p1), none], [.ref a0], h)) rfl ?_
  have k1 : aK d (cR c0 0 a0) = (0, 6, 0) := wf_obj hW ha0 (by decide) rfl
  refine en_get (by decide +kernel : u_at kl_3 1 = some (.getfield 9, [0, 0])) hW ha0 (by decide) rfl ?_
  refine en_segs [(4, .aload_n 0, [])] (by decide +kernel) (y := (5, [some (.ref a0), some (.int p1), none], [.ref a0, .ref (cR c0 0 a0)], h)) rfl ?_
  refine en_get (by decide +kernel : u_at kl_3 5 = some (.getfield 66, [0, 3])) hW ha0 (by decide) rfl ?_
  obtain ⟨r2, hr2, hF⟩ := ob_some hF
  refine en_vv (r := []) (by decide +kernel : u_at kl_3 8 = some (.invokevirtual 73, [57, 1, 6])) hW k1 rfl rfl (Nat.le_of_ble_eq_true rfl) (e_57 (D := D) (by omega) hW k1 hr2) (fun h hW => ?_)
  have hW : HW (mkw c0 c1 c2 c3 c4 c5 r2 c7 c8 c9 c10 c11 c12 c13) d h := hW
  refine en_segs [(11, .iconst 0, []), (12, .istore_n 2, [])] (by decide +kernel) (y := (13, [some (.ref a0), some (.int p1), some (.int 0)], [], h)) rfl ?_
  exact (g_3 (D := D) hD ha0 _ _ _ _ _ hF) _ _ rfl rfl rfl rfl  _ hW _ hQ
def F_53 (c6 : Cl) (c13 : Cl) (d : Ad) (a0 : Nat) : Option (Cl × Cl × Ad) :=
  ((if (cI c6 2 a0) ≤ (Int32.ofNat (aN d (cR c6 12 a0))) then
  some (c6, c13, d)
  else
  nwL c13 d (cI c6 2 a0) >>= fun n8 =>
  some (sR c6 12 a0 (aX d)) >>= fun c6_12 =>
  nwI n8.1 n8.2 (cI c6_12 2 a0) >>= fun n13 =>
  some (sR c6_12 14 a0 (aX n8.2)) >>= fun c6_18 =>
  some (c6_18, n13.1, n13.2)) : Option (Cl × Cl × Ad)) >>= fun (t2 : Cl × Cl × Ad) =>
  F_307 t2.1 t2.2.1 t2.2.2 a0 (cI t2.1 3 a0) 1 0 >>= fun r6 =>
  some (t2.1, r6.2, t2.2.2)
set_option maxRecDepth 100000 in
set_option maxHeartbeats 4000000 in
/-- HeadCounts$Scene.startQueue -/
theorem e_53 {D : Nat} {c0 c1 c2 c3 c4 c5 c6 c7 c8 c9 c10 c11 c12 c13 : Cl} {d : Ad} {h : UH} {a0 : Nat} {r : (Cl × Cl × Ad)} (hD : 3 ≤ D) (hW : HW (mkw c0 c1 c2 c3 c4 c5 c6 c7 c8 c9 c10 c11 c12 c13) d h) (ha0 : aK d a0 = (0, 6, 0)) (hF : F_53 c6 c13 d a0 = some r) : ∃ q, EX D 53 [.ref a0] h q ∧ q.1 = none ∧ HX d (mkw c0 c1 c2 c3 c4 c5 r.1 c7 c8 c9 c10 c11 c12 r.2.1) r.2.2 q.2 := by
  obtain ⟨D, rfl⟩ : ∃ E, D = E + 1 := ⟨D - 1, by omega⟩
  unfold F_53 at hF
  refine ex_in (kl := kl_53) (nL := 1) rfl (by decide +kernel) (Nat.le_of_ble_eq_true rfl) ?_
  obtain ⟨QQ, hQQ⟩ : ∃ QQ : UR → Prop, QQ = (fun q : UR => q.1 = none ∧ HX d (mkw c0 c1 c2 c3 c4 c5 r.1 c7 c8 c9 c10 c11 c12 r.2.1) r.2.2 q.2) := ⟨_, rfl⟩
  rw [← hQQ]
  have hQ : ∀ h' : UH, HX d (mkw c0 c1 c2 c3 c4 c5 r.1 c7 c8 c9 c10 c11 c12 r.2.1) r.2.2 h' → QQ (none, h') := fun h' p => by rw [hQQ]; exact ⟨rfl, p⟩
  clear hQQ
  show Ends (EX D) (u_at kl_53) (0, [some (.ref a0)], [], h) QQ
  refine en_segs [(0, .aload_n 0, [])] (by decide +kernel) (y := (1, [some (.ref a0)], [.ref a0], h)) rfl ?_
  have k1 : aK d (cR c6 12 a0) = (2, 2, 0) := wf_free hW ha0 (by decide) rfl
  refine en_get (by decide +kernel : u_at kl_53 1 = some (.getfield 37, [6, 12])) hW ha0 (by decide) rfl ?_
  refine en_flen (by decide +kernel : u_at kl_53 4 = some (.arraylength, [])) hW k1 (by decide) ?_
  refine en_segs [(5, .aload_n 0, [])] (by decide +kernel) (y := (6, [some (.ref a0)], [.ref a0, .int (Int32.ofNat (aN d (cR c6 12 a0)))], h)) rfl ?_
  refine en_get (by decide +kernel : u_at kl_53 6 = some (.getfield 84, [6, 2])) hW ha0 (by decide) rfl ?_
  obtain ⟨t2, hX, hK⟩ := ob_some hF
  have j3 : ∀ h : UH, HW (mkw c0 c1 c2 c3 c4 c5 t2.1 c7 c8 c9 c10 c11 c12 t2.2.1) t2.2.2 h → Adx d t2.2.2 → Ends (EX D) (u_at kl_53) (32, [some (.ref a0)], [], h) QQ := by
    intro h hW hX0
    have ha0 := hX0.o ha0
    have k1 := hX0.f k1
    have A4 := hX0
    have A5 := hX0
    have hF := hK
    refine en_segs [(32, .aload_n 0, []), (33, .aload_n 0, [])] (by decide +kernel) (y := (34, [some (.ref a0)], [.ref a0, .ref a0], h)) rfl ?_
    refine en_get (by decide +kernel : u_at kl_53 34 = some (.getfield 87, [6, 3])) hW ha0 (by decide) rfl ?_
    refine en_segs [(37, .lconst 1, []), (38, .iconst 0, [])] (by decide +kernel) (y := (39, [some (.ref a0)], [.int 0, .long 1, .int (cI t2.1 3 a0), .ref a0], h)) rfl ?_
    obtain ⟨r6, hr6, hF⟩ := ob_some hF
    refine en_vi (r := []) (by decide +kernel : u_at kl_53 39 = some (.invokevirtual 106, [307, 3, 6])) hW ha0 rfl rfl (Nat.le_of_ble_eq_true rfl) (e_307 (D := D) (by omega) hW ha0 hr6) (fun h hW => ?_)
    have hW : HW (mkw c0 c1 c2 c3 c4 c5 t2.1 c7 c8 c9 c10 c11 c12 r6.2) t2.2.2 h := hW
    refine en_segs [(42, .pop, [])] (by decide +kernel) (y := (43, [some (.ref a0)], [], h)) rfl ?_
    obtain rfl := Option.some.inj hF
    exact en_ret (by decide +kernel : u_at kl_53 43 = some (.return_, [])) rfl (hQ _ ⟨hW, A4⟩)
  have hF := hX
  refine en_ic_ge (by decide +kernel : u_at kl_53 9 = some (.if_icmp .ge 23, [32])) (fun b7 => ?_) (fun b7 => ?_)
  · replace hF := i_pos b7 hF
    obtain rfl := Option.some.inj hF
    exact j3 _ hW Adx.rf
  · replace hF := i_neg b7 hF
    refine en_segs [(12, .aload_n 0, []), (13, .aload_n 0, [])] (by decide +kernel) (y := (14, [some (.ref a0)], [.ref a0, .ref a0], h)) rfl ?_
    refine en_get (by decide +kernel : u_at kl_53 14 = some (.getfield 84, [6, 2])) hW ha0 (by decide) rfl ?_
    obtain ⟨n8, hn8, hF⟩ := ob_some hF
    refine en_newL (by decide +kernel : u_at kl_53 17 = some (.newarray .long, [2])) hW hn8 (fun h hW X9 k10 => ?_)
    have ha0 := X9.o ha0
    have k1 := X9.f k1
    have A11 := X9
    have hW : HW (mkw c0 c1 c2 c3 c4 c5 c6 c7 c8 c9 c10 c11 c12 n8.1) n8.2 h := hW
    obtain ⟨c6_12, hc6_12, hF⟩ := ob_some hF
    refine en_putF (by decide +kernel : u_at kl_53 19 = some (.putfield 37, [6, 12, 3])) hW ha0 rfl (by decide) k10 rfl (fun h hW => ?_)
    have hW : HW (mkw c0 c1 c2 c3 c4 c5 c6_12 c7 c8 c9 c10 c11 c12 n8.1) n8.2 h := by rw [← Option.some.inj hc6_12]; exact hW
    refine en_segs [(22, .aload_n 0, []), (23, .aload_n 0, [])] (by decide +kernel) (y := (24, [some (.ref a0)], [.ref a0, .ref a0], h)) rfl ?_
    refine en_get (by decide +kernel : u_at kl_53 24 = some (.getfield 84, [6, 2])) hW ha0 (by decide) rfl ?_
    obtain ⟨n13, hn13, hF⟩ := ob_some hF
    refine en_newI (by decide +kernel : u_at kl_53 27 = some (.newarray .int, [1])) hW hn13 (fun h hW X14 k15 => ?_)
    have ha0 := X14.o ha0
    have k1 := X14.f k1
    have k10 := X14.f k10
    have A16 := A11.trans X14
    have A17 := A11.trans X14
    have hW : HW (mkw c0 c1 c2 c3 c4 c5 c6_12 c7 c8 c9 c10 c11 c12 n13.1) n13.2 h := hW
    obtain ⟨c6_18, hc6_18, hF⟩ := ob_some hF
    refine en_putF (by decide +kernel : u_at kl_53 29 = some (.putfield 43, [6, 14, 3])) hW ha0 rfl (by decide) k15 rfl (fun h hW => ?_)
    have hW : HW (mkw c0 c1 c2 c3 c4 c5 c6_18 c7 c8 c9 c10 c11 c12 n13.1) n13.2 h := by rw [← Option.some.inj hc6_18]; exact hW
    obtain rfl := Option.some.inj hF
    exact j3 _ hW A17
def G_56 (c6 : Cl) (d : Ad) (a0 : Nat) (lab : Nat) (xs : List Int32) (ys : List Int64) (zs : List Nat) (c13 : Cl) : Option Cl := match lab, xs, ys, zs with
  | 0, [x1, x2], [], [] =>
    if x1 ≤ x2 then
    some c13
    else
    if (Int32.ofNat (aN d (cR c6 14 a0))) ≤ x2 then
    some c13
    else
    ald (cA c13 0 (cR c6 14 a0)) (aN d (cR c6 14 a0)) x2 >>= fun v5 =>
    stl c13 0 (cR c6 12 a0) (aN d (cR c6 12 a0)) v5 0 >>= fun c13_6 =>
    G_56 c6 d a0 0 [x1, x2 + 1] [] [] c13_6
  | _, _, _, _ => none
partial_fixpoint
set_option maxRecDepth 100000 in
set_option maxHeartbeats 4000000 in
theorem g_56 {D : Nat} (hD : 1 ≤ D + 1) {c0 c1 c2 c3 c4 c5 c6 c7 c8 c9 c10 c11 c12 : Cl} {d : Ad} {a0 : Nat} (ha0 : aK d a0 = (0, 6, 0)) : ∀ (lab : Nat) (xs : List Int32) (ys : List Int64) (zs : List Nat) (c13 : Cl) (r : Cl), G_56 c6 d a0 lab xs ys zs c13 = some r →
    (∀ (x1 : Int32) (x2 : Int32), lab = 0 → xs = [x1, x2] → ys = [] → zs = [] → ∀ h : UH, HW (mkw c0 c1 c2 c3 c4 c5 c6 c7 c8 c9 c10 c11 c12 c13) d h → ∀ QQ : UR → Prop, (∀ h' : UH, HW (mkw c0 c1 c2 c3 c4 c5 c6 c7 c8 c9 c10 c11 c12 r) d h' → QQ (none, h')) → Ends (EX D) (u_at kl_56) (2, [some (.ref a0), some (.int x1), some (.int x2)], [], h) QQ) := by
  refine G_56.partial_correctness _ _ _ (motive := fun lab xs ys zs c13 r =>
    (∀ (x1 : Int32) (x2 : Int32), lab = 0 → xs = [x1, x2] → ys = [] → zs = [] → ∀ h : UH, HW (mkw c0 c1 c2 c3 c4 c5 c6 c7 c8 c9 c10 c11 c12 c13) d h → ∀ QQ : UR → Prop, (∀ h' : UH, HW (mkw c0 c1 c2 c3 c4 c5 c6 c7 c8 c9 c10 c11 c12 r) d h' → QQ (none, h')) → Ends (EX D) (u_at kl_56) (2, [some (.ref a0), some (.int x1), some (.int x2)], [], h) QQ)) ?_
  intro G ih lab xs ys zs c13 r hF
  · intro x1 x2 e1 e2 e3 e4 h hW QQ hQ
    subst e1 e2 e3 e4
    refine en_segs [(2, .iload_n 2, []), (3, .iload_n 1, [])] (by decide +kernel) (y := (4, [some (.ref a0), some (.int x1), some (.int x2)], [.int x1, .int x2], h)) rfl ?_
    refine en_ic_ge (by decide +kernel : u_at kl_56 4 = some (.if_icmp .ge 30, [34])) (fun b1 => ?_) (fun b1 => ?_)
    · replace hF := i_pos b1 hF
      obtain rfl := Option.some.inj hF
      exact en_ret (by decide +kernel : u_at kl_56 34 = some (.return_, [])) rfl (hQ _ hW)
    · replace hF := i_neg b1 hF
      refine en_segs [(7, .iload_n 2, []), (8, .aload_n 0, [])] (by decide +kernel) (y := (9, [some (.ref a0), some (.int x1), some (.int x2)], [.ref a0, .int x2], h)) rfl ?_
      have k2 : aK d (cR c6 14 a0) = (2, 1, 0) := wf_free hW ha0 (by decide) rfl
      refine en_get (by decide +kernel : u_at kl_56 9 = some (.getfield 43, [6, 14])) hW ha0 (by decide) rfl ?_
      refine en_flen (by decide +kernel : u_at kl_56 12 = some (.arraylength, [])) hW k2 (by decide) ?_
      refine en_ic_ge (by decide +kernel : u_at kl_56 13 = some (.if_icmp .ge 21, [34])) (fun b3 => ?_) (fun b3 => ?_)
      · replace hF := i_pos b3 hF
        obtain rfl := Option.some.inj hF
        exact en_ret (by decide +kernel : u_at kl_56 34 = some (.return_, [])) rfl (hQ _ hW)
      · replace hF := i_neg b3 hF
        refine en_segs [(16, .aload_n 0, [])] (by decide +kernel) (y := (17, [some (.ref a0), some (.int x1), some (.int x2)], [.ref a0], h)) rfl ?_
        have k4 : aK d (cR c6 12 a0) = (2, 2, 0) := wf_free hW ha0 (by decide) rfl
        refine en_get (by decide +kernel : u_at kl_56 17 = some (.getfield 37, [6, 12])) hW ha0 (by decide) rfl ?_
        refine en_segs [(20, .aload_n 0, [])] (by decide +kernel) (y := (21, [some (.ref a0), some (.int x1), some (.int x2)], [.ref a0, .ref (cR c6 12 a0)], h)) rfl ?_
        refine en_get (by decide +kernel : u_at kl_56 21 = some (.getfield 43, [6, 14])) hW ha0 (by decide) rfl ?_
        refine en_segs [(24, .iload_n 2, [])] (by decide +kernel) (y := (25, [some (.ref a0), some (.int x1), some (.int x2)], [.int x2, .ref (cR c6 14 a0), .ref (cR c6 12 a0)], h)) rfl ?_
        obtain ⟨v5, hv5, hF⟩ := ob_some hF
        refine en_fiald (by decide +kernel : u_at kl_56 25 = some (.iaload, [])) hW k2 hv5 ?_
        refine en_segs [(26, .lconst 0, [])] (by decide +kernel) (y := (27, [some (.ref a0), some (.int x1), some (.int x2)], [.long 0, .int v5, .ref (cR c6 12 a0)], h)) rfl ?_
        obtain ⟨c13_6, hc13_6, hF⟩ := ob_some hF
        refine en_flast (by decide +kernel : u_at kl_56 27 = some (.lastore, [])) hW k4 hc13_6 (fun h hW => ?_)
        have hW : HW (mkw c0 c1 c2 c3 c4 c5 c6 c7 c8 c9 c10 c11 c12 c13_6) d h := hW
        refine en_segs [(28, .iinc 2 1, []), (31, .goto (-29), [2])] (by decide +kernel) (y := (2, [some (.ref a0), some (.int x1), some (.int (x2 + 1))], [], h)) rfl ?_
        exact (ih _ _ _ _ _ _ hF) _ _ rfl rfl rfl rfl  _ hW _ hQ
def F_56 (c6 : Cl) (c13 : Cl) (d : Ad) (a0 : Nat) (p1 : Int32) : Option Cl :=
  G_56 c6 d a0 0 [p1, 0] [] [] c13
set_option maxRecDepth 100000 in
set_option maxHeartbeats 4000000 in
/-- HeadCounts$Scene.clearMarks -/
theorem e_56 {D : Nat} {c0 c1 c2 c3 c4 c5 c6 c7 c8 c9 c10 c11 c12 c13 : Cl} {d : Ad} {h : UH} {a0 : Nat} {p1 : Int32} {r : Cl} (hD : 1 ≤ D) (hW : HW (mkw c0 c1 c2 c3 c4 c5 c6 c7 c8 c9 c10 c11 c12 c13) d h) (ha0 : aK d a0 = (0, 6, 0)) (hF : F_56 c6 c13 d a0 p1 = some r) : ∃ q, EX D 56 [.ref a0, .int p1] h q ∧ q.1 = none ∧ HW (mkw c0 c1 c2 c3 c4 c5 c6 c7 c8 c9 c10 c11 c12 r) d q.2 := by
  obtain ⟨D, rfl⟩ : ∃ E, D = E + 1 := ⟨D - 1, by omega⟩
  unfold F_56 at hF
  refine ex_in (kl := kl_56) (nL := 3) rfl (by decide +kernel) (Nat.le_of_ble_eq_true rfl) ?_
  obtain ⟨QQ, hQQ⟩ : ∃ QQ : UR → Prop, QQ = (fun q : UR => q.1 = none ∧ HW (mkw c0 c1 c2 c3 c4 c5 c6 c7 c8 c9 c10 c11 c12 r) d q.2) := ⟨_, rfl⟩
  rw [← hQQ]
  have hQ : ∀ h' : UH, HW (mkw c0 c1 c2 c3 c4 c5 c6 c7 c8 c9 c10 c11 c12 r) d h' → QQ (none, h') := fun h' p => by rw [hQQ]; exact ⟨rfl, p⟩
  clear hQQ
  show Ends (EX D) (u_at kl_56) (0, [some (.ref a0), some (.int p1), none], [], h) QQ
  refine en_segs [(0, .iconst 0, []), (1, .istore_n 2, [])] (by decide +kernel) (y := (2, [some (.ref a0), some (.int p1), some (.int 0)], [], h)) rfl ?_
  exact (g_56 (D := D) hD ha0 _ _ _ _ _ _ hF) _ _ rfl rfl rfl rfl  _ hW _ hQ
def G_10 (c1 : Cl) (a0 : Nat) (lab : Nat) (xs : List Int32) (ys : List Int64) (zs : List Nat) : Option Int32 := match lab, xs, ys, zs with
  | 0, [x1, x2, x3], [], [] =>
    if (cI c1 1 a0) ≤ x3 then
    some 0
    else
    ald (cA c1 5 a0) 10 x3 >>= fun v2 =>
    if v2 = x1 then
    ald (cA c1 6 a0) 10 x3 >>= fun v4 =>
    if v4 = x2 then
    some 1
    else
    G_10 c1 a0 1 [x1, x2, x3] [] []
    else
    G_10 c1 a0 1 [x1, x2, x3] [] []
  | 1, [x1, x2, x3], [], [] =>
    ald (cA c1 5 a0) 10 x3 >>= fun v6 =>
    if v6 = x2 then
    ald (cA c1 6 a0) 10 x3 >>= fun v8 =>
    if v8 = x1 then
    some 1
    else
    G_10 c1 a0 0 [x1, x2, x3 + 1] [] []
    else
    G_10 c1 a0 0 [x1, x2, x3 + 1] [] []
  | _, _, _, _ => none
partial_fixpoint
set_option maxRecDepth 100000 in
set_option maxHeartbeats 4000000 in
theorem g_10 {D : Nat} (hD : 1 ≤ D + 1) {c0 c1 c2 c3 c4 c5 c6 c7 c8 c9 c10 c11 c12 c13 : Cl} {d : Ad} {a0 : Nat} (ha0 : aK d a0 = (0, 1, 0)) : ∀ (lab : Nat) (xs : List Int32) (ys : List Int64) (zs : List Nat) (r : Int32), G_10 c1 a0 lab xs ys zs = some r →
    (∀ (x1 : Int32) (x2 : Int32) (x3 : Int32), lab = 0 → xs = [x1, x2, x3] → ys = [] → zs = [] → ∀ h : UH, HW (mkw c0 c1 c2 c3 c4 c5 c6 c7 c8 c9 c10 c11 c12 c13) d h → ∀ QQ : UR → Prop, QQ (some (.int r), h) → Ends (EX D) (u_at kl_10) (2, [some (.ref a0), some (.int x1), some (.int x2), some (.int x3)], [], h) QQ) ∧
    (∀ (x1 : Int32) (x2 : Int32) (x3 : Int32), lab = 1 → xs = [x1, x2, x3] → ys = [] → zs = [] → ∀ h : UH, HW (mkw c0 c1 c2 c3 c4 c5 c6 c7 c8 c9 c10 c11 c12 c13) d h → ∀ QQ : UR → Prop, QQ (some (.int r), h) → Ends (EX D) (u_at kl_10) (30, [some (.ref a0), some (.int x1), some (.int x2), some (.int x3)], [], h) QQ) := by
  refine G_10.partial_correctness _ _ (motive := fun lab xs ys zs r =>
    (∀ (x1 : Int32) (x2 : Int32) (x3 : Int32), lab = 0 → xs = [x1, x2, x3] → ys = [] → zs = [] → ∀ h : UH, HW (mkw c0 c1 c2 c3 c4 c5 c6 c7 c8 c9 c10 c11 c12 c13) d h → ∀ QQ : UR → Prop, QQ (some (.int r), h) → Ends (EX D) (u_at kl_10) (2, [some (.ref a0), some (.int x1), some (.int x2), some (.int x3)], [], h) QQ) ∧
    (∀ (x1 : Int32) (x2 : Int32) (x3 : Int32), lab = 1 → xs = [x1, x2, x3] → ys = [] → zs = [] → ∀ h : UH, HW (mkw c0 c1 c2 c3 c4 c5 c6 c7 c8 c9 c10 c11 c12 c13) d h → ∀ QQ : UR → Prop, QQ (some (.int r), h) → Ends (EX D) (u_at kl_10) (30, [some (.ref a0), some (.int x1), some (.int x2), some (.int x3)], [], h) QQ)) ?_
  intro G ih lab xs ys zs r hF
  refine ⟨?_, ?_⟩
  · intro x1 x2 x3 e1 e2 e3 e4 h hW QQ hQ
    subst e1 e2 e3 e4
    refine en_segs [(2, .iload_n 3, []), (3, .aload_n 0, [])] (by decide +kernel) (y := (4, [some (.ref a0), some (.int x1), some (.int x2), some (.int x3)], [.ref a0, .int x3], h)) rfl ?_
    refine en_get (by decide +kernel : u_at kl_10 4 = some (.getfield 46, [1, 1])) hW ha0 (by decide) rfl ?_
    refine en_ic_ge (by decide +kernel : u_at kl_10 7 = some (.if_icmp .ge 51, [58])) (fun b1 => ?_) (fun b1 => ?_)
    · replace hF := i_pos b1 hF
      refine en_segs [(58, .iconst 0, [])] (by decide +kernel) (y := (59, [some (.ref a0), some (.int x1), some (.int x2), some (.int x3)], [.int 0], h)) rfl ?_
      obtain rfl := Option.some.inj hF
      exact en_ret (by decide +kernel : u_at kl_10 59 = some (.ireturn, [1])) rfl (hQ)
    · replace hF := i_neg b1 hF
      refine en_segs [(10, .aload_n 0, [])] (by decide +kernel) (y := (11, [some (.ref a0), some (.int x1), some (.int x2), some (.int x3)], [.ref a0], h)) rfl ?_
      refine en_get (by decide +kernel : u_at kl_10 11 = some (.getfield 15, [1, 5])) hW ha0 (by decide) rfl ?_
      refine en_segs [(14, .iload_n 3, [])] (by decide +kernel) (y := (15, [some (.ref a0), some (.int x1), some (.int x2), some (.int x3)], [.int x3, .ref (aP d 1 5 a0)], h)) rfl ?_
      obtain ⟨v2, hv2, hF⟩ := ob_some hF
      refine en_iald (by decide +kernel : u_at kl_10 15 = some (.iaload, [])) hW ha0 rfl (by decide) hv2 ?_
      refine en_segs [(16, .iload_n 1, [])] (by decide +kernel) (y := (17, [some (.ref a0), some (.int x1), some (.int x2), some (.int x3)], [.int x1, .int v2], h)) rfl ?_
      refine en_ic_ne (by decide +kernel : u_at kl_10 17 = some (.if_icmp .ne 13, [30])) (fun b3 => ?_) (fun b3 => ?_)
      · replace hF := i_pos b3 hF
        refine en_segs [(20, .aload_n 0, [])] (by decide +kernel) (y := (21, [some (.ref a0), some (.int x1), some (.int x2), some (.int x3)], [.ref a0], h)) rfl ?_
        refine en_get (by decide +kernel : u_at kl_10 21 = some (.getfield 19, [1, 6])) hW ha0 (by decide) rfl ?_
        refine en_segs [(24, .iload_n 3, [])] (by decide +kernel) (y := (25, [some (.ref a0), some (.int x1), some (.int x2), some (.int x3)], [.int x3, .ref (aP d 1 6 a0)], h)) rfl ?_
        obtain ⟨v4, hv4, hF⟩ := ob_some hF
        refine en_iald (by decide +kernel : u_at kl_10 25 = some (.iaload, [])) hW ha0 rfl (by decide) hv4 ?_
        refine en_segs [(26, .iload_n 2, [])] (by decide +kernel) (y := (27, [some (.ref a0), some (.int x1), some (.int x2), some (.int x3)], [.int x2, .int v4], h)) rfl ?_
        refine en_ic_eq (by decide +kernel : u_at kl_10 27 = some (.if_icmp .eq 23, [50])) (fun b5 => ?_) (fun b5 => ?_)
        · replace hF := i_pos b5 hF
          refine en_segs [(50, .iconst 1, [])] (by decide +kernel) (y := (51, [some (.ref a0), some (.int x1), some (.int x2), some (.int x3)], [.int 1], h)) rfl ?_
          obtain rfl := Option.some.inj hF
          exact en_ret (by decide +kernel : u_at kl_10 51 = some (.ireturn, [1])) rfl (hQ)
        · replace hF := i_neg b5 hF
          exact (ih _ _ _ _ _ hF).2 _ _ _ rfl rfl rfl rfl  _ hW _ hQ
      · replace hF := i_neg b3 hF
        exact (ih _ _ _ _ _ hF).2 _ _ _ rfl rfl rfl rfl  _ hW _ hQ
  · intro x1 x2 x3 e1 e2 e3 e4 h hW QQ hQ
    subst e1 e2 e3 e4
    refine en_segs [(30, .aload_n 0, [])] (by decide +kernel) (y := (31, [some (.ref a0), some (.int x1), some (.int x2), some (.int x3)], [.ref a0], h)) rfl ?_
    refine en_get (by decide +kernel : u_at kl_10 31 = some (.getfield 15, [1, 5])) hW ha0 (by decide) rfl ?_
    refine en_segs [(34, .iload_n 3, [])] (by decide +kernel) (y := (35, [some (.ref a0), some (.int x1), some (.int x2), some (.int x3)], [.int x3, .ref (aP d 1 5 a0)], h)) rfl ?_
    obtain ⟨v6, hv6, hF⟩ := ob_some hF
    refine en_iald (by decide +kernel : u_at kl_10 35 = some (.iaload, [])) hW ha0 rfl (by decide) hv6 ?_
    refine en_segs [(36, .iload_n 2, [])] (by decide +kernel) (y := (37, [some (.ref a0), some (.int x1), some (.int x2), some (.int x3)], [.int x2, .int v6], h)) rfl ?_
    refine en_ic_ne (by decide +kernel : u_at kl_10 37 = some (.if_icmp .ne 15, [52])) (fun b7 => ?_) (fun b7 => ?_)
    · replace hF := i_pos b7 hF
      refine en_segs [(40, .aload_n 0, [])] (by decide +kernel) (y := (41, [some (.ref a0), some (.int x1), some (.int x2), some (.int x3)], [.ref a0], h)) rfl ?_
      refine en_get (by decide +kernel : u_at kl_10 41 = some (.getfield 19, [1, 6])) hW ha0 (by decide) rfl ?_
      refine en_segs [(44, .iload_n 3, [])] (by decide +kernel) (y := (45, [some (.ref a0), some (.int x1), some (.int x2), some (.int x3)], [.int x3, .ref (aP d 1 6 a0)], h)) rfl ?_
      obtain ⟨v8, hv8, hF⟩ := ob_some hF
      refine en_iald (by decide +kernel : u_at kl_10 45 = some (.iaload, [])) hW ha0 rfl (by decide) hv8 ?_
      refine en_segs [(46, .iload_n 1, [])] (by decide +kernel) (y := (47, [some (.ref a0), some (.int x1), some (.int x2), some (.int x3)], [.int x1, .int v8], h)) rfl ?_
      refine en_ic_ne (by decide +kernel : u_at kl_10 47 = some (.if_icmp .ne 5, [52])) (fun b9 => ?_) (fun b9 => ?_)
      · replace hF := i_pos b9 hF
        refine en_segs [(50, .iconst 1, [])] (by decide +kernel) (y := (51, [some (.ref a0), some (.int x1), some (.int x2), some (.int x3)], [.int 1], h)) rfl ?_
        obtain rfl := Option.some.inj hF
        exact en_ret (by decide +kernel : u_at kl_10 51 = some (.ireturn, [1])) rfl (hQ)
      · replace hF := i_neg b9 hF
        refine en_segs [(52, .iinc 3 1, []), (55, .goto (-53), [2])] (by decide +kernel) (y := (2, [some (.ref a0), some (.int x1), some (.int x2), some (.int (x3 + 1))], [], h)) rfl ?_
        exact (ih _ _ _ _ _ hF).1 _ _ _ rfl rfl rfl rfl  _ hW _ hQ
    · replace hF := i_neg b7 hF
      refine en_segs [(52, .iinc 3 1, []), (55, .goto (-53), [2])] (by decide +kernel) (y := (2, [some (.ref a0), some (.int x1), some (.int x2), some (.int (x3 + 1))], [], h)) rfl ?_
      exact (ih _ _ _ _ _ hF).1 _ _ _ rfl rfl rfl rfl  _ hW _ hQ
def F_10 (c1 : Cl) (a0 : Nat) (p1 : Int32) (p2 : Int32) : Option Int32 :=
  G_10 c1 a0 0 [p1, p2, 0] [] []
set_option maxRecDepth 100000 in
set_option maxHeartbeats 4000000 in
/-- HeadCounts$House.hasDoor -/
theorem e_10 {D : Nat} {c0 c1 c2 c3 c4 c5 c6 c7 c8 c9 c10 c11 c12 c13 : Cl} {d : Ad} {h : UH} {a0 : Nat} {p1 : Int32} {p2 : Int32} {r : Int32} (hD : 1 ≤ D) (hW : HW (mkw c0 c1 c2 c3 c4 c5 c6 c7 c8 c9 c10 c11 c12 c13) d h) (ha0 : aK d a0 = (0, 1, 0)) (hF : F_10 c1 a0 p1 p2 = some r) : ∃ q, EX D 10 [.ref a0, .int p1, .int p2] h q ∧ q.1 = some (.int r) ∧ h = q.2 := by
  obtain ⟨D, rfl⟩ : ∃ E, D = E + 1 := ⟨D - 1, by omega⟩
  unfold F_10 at hF
  refine ex_in (kl := kl_10) (nL := 4) rfl (by decide +kernel) (Nat.le_of_ble_eq_true rfl) ?_
  obtain ⟨QQ, hQQ⟩ : ∃ QQ : UR → Prop, QQ = (fun q : UR => q.1 = some (.int r) ∧ h = q.2) := ⟨_, rfl⟩
  rw [← hQQ]
  have hQ : QQ (some (.int r), h) := by rw [hQQ]; exact ⟨rfl, rfl⟩
  clear hQQ
  show Ends (EX D) (u_at kl_10) (0, [some (.ref a0), some (.int p1), some (.int p2), none], [], h) QQ
  refine en_segs [(0, .iconst 0, []), (1, .istore_n 3, [])] (by decide +kernel) (y := (2, [some (.ref a0), some (.int p1), some (.int p2), some (.int 0)], [], h)) rfl ?_
  exact (g_10 (D := D) hD ha0 _ _ _ _ _ hF).1 _ _ _ rfl rfl rfl rfl  _ hW _ hQ
def F_11 (c1 : Cl) (a0 : Nat) (p1 : Int32) (p2 : Int32) : Option Cl :=
  ((if 10 ≤ (cI c1 1 a0) then
  some c1
  else
  ast c1 5 a0 10 (cI c1 1 a0) p1 >>= fun c1_4 =>
  ast c1_4 6 a0 10 (cI c1_4 1 a0) p2 >>= fun c1_5 =>
  some (sI c1_5 1 a0 ((cI c1_5 1 a0) + 1)) >>= fun c1_6 =>
  some c1_6) : Option (Cl)) >>= fun (t1 : Cl) =>
  some t1
set_option maxRecDepth 100000 in
set_option maxHeartbeats 4000000 in
/-- HeadCounts$House.addDoor -/
theorem e_11 {D : Nat} {c0 c1 c2 c3 c4 c5 c6 c7 c8 c9 c10 c11 c12 c13 : Cl} {d : Ad} {h : UH} {a0 : Nat} {p1 : Int32} {p2 : Int32} {r : Cl} (hD : 1 ≤ D) (hW : HW (mkw c0 c1 c2 c3 c4 c5 c6 c7 c8 c9 c10 c11 c12 c13) d h) (ha0 : aK d a0 = (0, 1, 0)) (hF : F_11 c1 a0 p1 p2 = some r) : ∃ q, EX D 11 [.ref a0, .int p1, .int p2] h q ∧ q.1 = none ∧ HW (mkw c0 r c2 c3 c4 c5 c6 c7 c8 c9 c10 c11 c12 c13) d q.2 := by
  obtain ⟨D, rfl⟩ : ∃ E, D = E + 1 := ⟨D - 1, by omega⟩
  unfold F_11 at hF
  refine ex_in (kl := kl_11) (nL := 3) rfl (by decide +kernel) (Nat.le_of_ble_eq_true rfl) ?_
  obtain ⟨QQ, hQQ⟩ : ∃ QQ : UR → Prop, QQ = (fun q : UR => q.1 = none ∧ HW (mkw c0 r c2 c3 c4 c5 c6 c7 c8 c9 c10 c11 c12 c13) d q.2) := ⟨_, rfl⟩
  rw [← hQQ]
  have hQ : ∀ h' : UH, HW (mkw c0 r c2 c3 c4 c5 c6 c7 c8 c9 c10 c11 c12 c13) d h' → QQ (none, h') := fun h' p => by rw [hQQ]; exact ⟨rfl, p⟩
  clear hQQ
  show Ends (EX D) (u_at kl_11) (0, [some (.ref a0), some (.int p1), some (.int p2)], [], h) QQ
  refine en_segs [(0, .aload_n 0, [])] (by decide +kernel) (y := (1, [some (.ref a0), some (.int p1), some (.int p2)], [.ref a0], h)) rfl ?_
  refine en_get (by decide +kernel : u_at kl_11 1 = some (.getfield 46, [1, 1])) hW ha0 (by decide) rfl ?_
  refine en_segs [(4, .bipush 10, [])] (by decide +kernel) (y := (6, [some (.ref a0), some (.int p1), some (.int p2)], [.int 10, .int (cI c1 1 a0)], h)) rfl ?_
  obtain ⟨t1, hX, hK⟩ := ob_some hF
  have j2 : ∀ h : UH, HW (mkw c0 t1 c2 c3 c4 c5 c6 c7 c8 c9 c10 c11 c12 c13) d h → Ends (EX D) (u_at kl_11) (39, [some (.ref a0), some (.int p1), some (.int p2)], [], h) QQ := by
    intro h hW
    have hF := hK
    obtain rfl := Option.some.inj hF
    exact en_ret (by decide +kernel : u_at kl_11 39 = some (.return_, [])) rfl (hQ _ hW)
  have hF := hX
  refine en_ic_ge (by decide +kernel : u_at kl_11 6 = some (.if_icmp .ge 33, [39])) (fun b3 => ?_) (fun b3 => ?_)
  · replace hF := i_pos b3 hF
    obtain rfl := Option.some.inj hF
    exact j2 _ hW
  · replace hF := i_neg b3 hF
    refine en_segs [(9, .aload_n 0, [])] (by decide +kernel) (y := (10, [some (.ref a0), some (.int p1), some (.int p2)], [.ref a0], h)) rfl ?_
    refine en_get (by decide +kernel : u_at kl_11 10 = some (.getfield 15, [1, 5])) hW ha0 (by decide) rfl ?_
    refine en_segs [(13, .aload_n 0, [])] (by decide +kernel) (y := (14, [some (.ref a0), some (.int p1), some (.int p2)], [.ref a0, .ref (aP d 1 5 a0)], h)) rfl ?_
    refine en_get (by decide +kernel : u_at kl_11 14 = some (.getfield 46, [1, 1])) hW ha0 (by decide) rfl ?_
    refine en_segs [(17, .iload_n 1, [])] (by decide +kernel) (y := (18, [some (.ref a0), some (.int p1), some (.int p2)], [.int p1, .int (cI c1 1 a0), .ref (aP d 1 5 a0)], h)) rfl ?_
    obtain ⟨c1_4, hc1_4, hF⟩ := ob_some hF
    refine en_iast (by decide +kernel : u_at kl_11 18 = some (.iastore, [])) hW ha0 rfl (by decide) hc1_4 (fun h hW => ?_)
    have hW : HW (mkw c0 c1_4 c2 c3 c4 c5 c6 c7 c8 c9 c10 c11 c12 c13) d h := hW
    refine en_segs [(19, .aload_n 0, [])] (by decide +kernel) (y := (20, [some (.ref a0), some (.int p1), some (.int p2)], [.ref a0], h)) rfl ?_
    refine en_get (by decide +kernel : u_at kl_11 20 = some (.getfield 19, [1, 6])) hW ha0 (by decide) rfl ?_
    refine en_segs [(23, .aload_n 0, [])] (by decide +kernel) (y := (24, [some (.ref a0), some (.int p1), some (.int p2)], [.ref a0, .ref (aP d 1 6 a0)], h)) rfl ?_
    refine en_get (by decide +kernel : u_at kl_11 24 = some (.getfield 46, [1, 1])) hW ha0 (by decide) rfl ?_
    refine en_segs [(27, .iload_n 2, [])] (by decide +kernel) (y := (28, [some (.ref a0), some (.int p1), some (.int p2)], [.int p2, .int (cI c1_4 1 a0), .ref (aP d 1 6 a0)], h)) rfl ?_
    obtain ⟨c1_5, hc1_5, hF⟩ := ob_some hF
    refine en_iast (by decide +kernel : u_at kl_11 28 = some (.iastore, [])) hW ha0 rfl (by decide) hc1_5 (fun h hW => ?_)
    have hW : HW (mkw c0 c1_5 c2 c3 c4 c5 c6 c7 c8 c9 c10 c11 c12 c13) d h := hW
    refine en_segs [(29, .aload_n 0, []), (30, .dup, [])] (by decide +kernel) (y := (31, [some (.ref a0), some (.int p1), some (.int p2)], [.ref a0, .ref a0], h)) rfl ?_
    refine en_get (by decide +kernel : u_at kl_11 31 = some (.getfield 46, [1, 1])) hW ha0 (by decide) rfl ?_
    refine en_segs [(34, .iconst 1, []), (35, .iadd, [])] (by decide +kernel) (y := (36, [some (.ref a0), some (.int p1), some (.int p2)], [.int ((cI c1_5 1 a0) + 1), .ref a0], h)) rfl ?_
    obtain ⟨c1_6, hc1_6, hF⟩ := ob_some hF
    refine en_putI (by decide +kernel : u_at kl_11 36 = some (.putfield 46, [1, 1, 0])) hW ha0 rfl (by decide) rfl (fun h hW => ?_)
    have hW : HW (mkw c0 c1_6 c2 c3 c4 c5 c6 c7 c8 c9 c10 c11 c12 c13) d h := by rw [← Option.some.inj hc1_6]; exact hW
    obtain rfl := Option.some.inj hF
    exact j2 _ hW
def F_12 (c1 : Cl) (a0 : Nat) (p1 : Int32) (p2 : Int32) : Option Cl :=
  ((if 6 ≤ (cI c1 2 a0) then
  some c1
  else
  ast c1 7 a0 6 (cI c1 2 a0) p1 >>= fun c1_4 =>
  ast c1_4 8 a0 6 (cI c1_4 2 a0) p2 >>= fun c1_5 =>
  ald (cA c1_5 12 a0) 6 p1 >>= fun v6 =>
  ast c1_5 12 a0 6 p1 (v6 + p2) >>= fun c1_7 =>
  some (sI c1_7 2 a0 ((cI c1_7 2 a0) + 1)) >>= fun c1_8 =>
  some c1_8) : Option (Cl)) >>= fun (t1 : Cl) =>
  some t1
set_option maxRecDepth 100000 in
set_option maxHeartbeats 4000000 in
/-- HeadCounts$House.addHead -/
theorem e_12 {D : Nat} {c0 c1 c2 c3 c4 c5 c6 c7 c8 c9 c10 c11 c12 c13 : Cl} {d : Ad} {h : UH} {a0 : Nat} {p1 : Int32} {p2 : Int32} {r : Cl} (hD : 1 ≤ D) (hW : HW (mkw c0 c1 c2 c3 c4 c5 c6 c7 c8 c9 c10 c11 c12 c13) d h) (ha0 : aK d a0 = (0, 1, 0)) (hF : F_12 c1 a0 p1 p2 = some r) : ∃ q, EX D 12 [.ref a0, .int p1, .int p2] h q ∧ q.1 = none ∧ HW (mkw c0 r c2 c3 c4 c5 c6 c7 c8 c9 c10 c11 c12 c13) d q.2 := by
  obtain ⟨D, rfl⟩ : ∃ E, D = E + 1 := ⟨D - 1, by omega⟩
  unfold F_12 at hF
  refine ex_in (kl := kl_12) (nL := 3) rfl (by decide +kernel) (Nat.le_of_ble_eq_true rfl) ?_
  obtain ⟨QQ, hQQ⟩ : ∃ QQ : UR → Prop, QQ = (fun q : UR => q.1 = none ∧ HW (mkw c0 r c2 c3 c4 c5 c6 c7 c8 c9 c10 c11 c12 c13) d q.2) := ⟨_, rfl⟩
  rw [← hQQ]
  have hQ : ∀ h' : UH, HW (mkw c0 r c2 c3 c4 c5 c6 c7 c8 c9 c10 c11 c12 c13) d h' → QQ (none, h') := fun h' p => by rw [hQQ]; exact ⟨rfl, p⟩
  clear hQQ
  show Ends (EX D) (u_at kl_12) (0, [some (.ref a0), some (.int p1), some (.int p2)], [], h) QQ
  refine en_segs [(0, .aload_n 0, [])] (by decide +kernel) (y := (1, [some (.ref a0), some (.int p1), some (.int p2)], [.ref a0], h)) rfl ?_
  refine en_get (by decide +kernel : u_at kl_12 1 = some (.getfield 49, [1, 2])) hW ha0 (by decide) rfl ?_
  refine en_segs [(4, .bipush 6, [])] (by decide +kernel) (y := (6, [some (.ref a0), some (.int p1), some (.int p2)], [.int 6, .int (cI c1 2 a0)], h)) rfl ?_
  obtain ⟨t1, hX, hK⟩ := ob_some hF
  have j2 : ∀ h : UH, HW (mkw c0 t1 c2 c3 c4 c5 c6 c7 c8 c9 c10 c11 c12 c13) d h → Ends (EX D) (u_at kl_12) (49, [some (.ref a0), some (.int p1), some (.int p2)], [], h) QQ := by
    intro h hW
    have hF := hK
    obtain rfl := Option.some.inj hF
    exact en_ret (by decide +kernel : u_at kl_12 49 = some (.return_, [])) rfl (hQ _ hW)
  have hF := hX
  refine en_ic_ge (by decide +kernel : u_at kl_12 6 = some (.if_icmp .ge 43, [49])) (fun b3 => ?_) (fun b3 => ?_)
  · replace hF := i_pos b3 hF
    obtain rfl := Option.some.inj hF
    exact j2 _ hW
  · replace hF := i_neg b3 hF
    refine en_segs [(9, .aload_n 0, [])] (by decide +kernel) (y := (10, [some (.ref a0), some (.int p1), some (.int p2)], [.ref a0], h)) rfl ?_
    refine en_get (by decide +kernel : u_at kl_12 10 = some (.getfield 22, [1, 7])) hW ha0 (by decide) rfl ?_
    refine en_segs [(13, .aload_n 0, [])] (by decide +kernel) (y := (14, [some (.ref a0), some (.int p1), some (.int p2)], [.ref a0, .ref (aP d 1 7 a0)], h)) rfl ?_
    refine en_get (by decide +kernel : u_at kl_12 14 = some (.getfield 49, [1, 2])) hW ha0 (by decide) rfl ?_
    refine en_segs [(17, .iload_n 1, [])] (by decide +kernel) (y := (18, [some (.ref a0), some (.int p1), some (.int p2)], [.int p1, .int (cI c1 2 a0), .ref (aP d 1 7 a0)], h)) rfl ?_
    obtain ⟨c1_4, hc1_4, hF⟩ := ob_some hF
    refine en_iast (by decide +kernel : u_at kl_12 18 = some (.iastore, [])) hW ha0 rfl (by decide) hc1_4 (fun h hW => ?_)
    have hW : HW (mkw c0 c1_4 c2 c3 c4 c5 c6 c7 c8 c9 c10 c11 c12 c13) d h := hW
    refine en_segs [(19, .aload_n 0, [])] (by decide +kernel) (y := (20, [some (.ref a0), some (.int p1), some (.int p2)], [.ref a0], h)) rfl ?_
    refine en_get (by decide +kernel : u_at kl_12 20 = some (.getfield 25, [1, 8])) hW ha0 (by decide) rfl ?_
    refine en_segs [(23, .aload_n 0, [])] (by decide +kernel) (y := (24, [some (.ref a0), some (.int p1), some (.int p2)], [.ref a0, .ref (aP d 1 8 a0)], h)) rfl ?_
    refine en_get (by decide +kernel : u_at kl_12 24 = some (.getfield 49, [1, 2])) hW ha0 (by decide) rfl ?_
    refine en_segs [(27, .iload_n 2, [])] (by decide +kernel) (y := (28, [some (.ref a0), some (.int p1), some (.int p2)], [.int p2, .int (cI c1_4 2 a0), .ref (aP d 1 8 a0)], h)) rfl ?_
    obtain ⟨c1_5, hc1_5, hF⟩ := ob_some hF
    refine en_iast (by decide +kernel : u_at kl_12 28 = some (.iastore, [])) hW ha0 rfl (by decide) hc1_5 (fun h hW => ?_)
    have hW : HW (mkw c0 c1_5 c2 c3 c4 c5 c6 c7 c8 c9 c10 c11 c12 c13) d h := hW
    refine en_segs [(29, .aload_n 0, [])] (by decide +kernel) (y := (30, [some (.ref a0), some (.int p1), some (.int p2)], [.ref a0], h)) rfl ?_
    refine en_get (by decide +kernel : u_at kl_12 30 = some (.getfield 37, [1, 12])) hW ha0 (by decide) rfl ?_
    refine en_segs [(33, .iload_n 1, []), (34, .dup2, [])] (by decide +kernel) (y := (35, [some (.ref a0), some (.int p1), some (.int p2)], [.int p1, .ref (aP d 1 12 a0), .int p1, .ref (aP d 1 12 a0)], h)) rfl ?_
    obtain ⟨v6, hv6, hF⟩ := ob_some hF
    refine en_iald (by decide +kernel : u_at kl_12 35 = some (.iaload, [])) hW ha0 rfl (by decide) hv6 ?_
    refine en_segs [(36, .iload_n 2, []), (37, .iadd, [])] (by decide +kernel) (y := (38, [some (.ref a0), some (.int p1), some (.int p2)], [.int (v6 + p2), .int p1, .ref (aP d 1 12 a0)], h)) rfl ?_
    obtain ⟨c1_7, hc1_7, hF⟩ := ob_some hF
    refine en_iast (by decide +kernel : u_at kl_12 38 = some (.iastore, [])) hW ha0 rfl (by decide) hc1_7 (fun h hW => ?_)
    have hW : HW (mkw c0 c1_7 c2 c3 c4 c5 c6 c7 c8 c9 c10 c11 c12 c13) d h := hW
    refine en_segs [(39, .aload_n 0, []), (40, .dup, [])] (by decide +kernel) (y := (41, [some (.ref a0), some (.int p1), some (.int p2)], [.ref a0, .ref a0], h)) rfl ?_
    refine en_get (by decide +kernel : u_at kl_12 41 = some (.getfield 49, [1, 2])) hW ha0 (by decide) rfl ?_
    refine en_segs [(44, .iconst 1, []), (45, .iadd, [])] (by decide +kernel) (y := (46, [some (.ref a0), some (.int p1), some (.int p2)], [.int ((cI c1_7 2 a0) + 1), .ref a0], h)) rfl ?_
    obtain ⟨c1_8, hc1_8, hF⟩ := ob_some hF
    refine en_putI (by decide +kernel : u_at kl_12 46 = some (.putfield 49, [1, 2, 0])) hW ha0 rfl (by decide) rfl (fun h hW => ?_)
    have hW : HW (mkw c0 c1_8 c2 c3 c4 c5 c6 c7 c8 c9 c10 c11 c12 c13) d h := by rw [← Option.some.inj hc1_8]; exact hW
    obtain rfl := Option.some.inj hF
    exact j2 _ hW
def F_13 (c1 : Cl) (a0 : Nat) (p1 : Int32) : Option Cl :=
  ((if 6 ≤ (cI c1 3 a0) then
  some c1
  else
  ast c1 11 a0 6 (cI c1 3 a0) p1 >>= fun c1_4 =>
  some (sI c1_4 3 a0 ((cI c1_4 3 a0) + 1)) >>= fun c1_5 =>
  some c1_5) : Option (Cl)) >>= fun (t1 : Cl) =>
  some t1
set_option maxRecDepth 100000 in
set_option maxHeartbeats 4000000 in
/-- HeadCounts$House.addSense -/
theorem e_13 {D : Nat} {c0 c1 c2 c3 c4 c5 c6 c7 c8 c9 c10 c11 c12 c13 : Cl} {d : Ad} {h : UH} {a0 : Nat} {p1 : Int32} {r : Cl} (hD : 1 ≤ D) (hW : HW (mkw c0 c1 c2 c3 c4 c5 c6 c7 c8 c9 c10 c11 c12 c13) d h) (ha0 : aK d a0 = (0, 1, 0)) (hF : F_13 c1 a0 p1 = some r) : ∃ q, EX D 13 [.ref a0, .int p1] h q ∧ q.1 = none ∧ HW (mkw c0 r c2 c3 c4 c5 c6 c7 c8 c9 c10 c11 c12 c13) d q.2 := by
  obtain ⟨D, rfl⟩ : ∃ E, D = E + 1 := ⟨D - 1, by omega⟩
  unfold F_13 at hF
  refine ex_in (kl := kl_13) (nL := 2) rfl (by decide +kernel) (Nat.le_of_ble_eq_true rfl) ?_
  obtain ⟨QQ, hQQ⟩ : ∃ QQ : UR → Prop, QQ = (fun q : UR => q.1 = none ∧ HW (mkw c0 r c2 c3 c4 c5 c6 c7 c8 c9 c10 c11 c12 c13) d q.2) := ⟨_, rfl⟩
  rw [← hQQ]
  have hQ : ∀ h' : UH, HW (mkw c0 r c2 c3 c4 c5 c6 c7 c8 c9 c10 c11 c12 c13) d h' → QQ (none, h') := fun h' p => by rw [hQQ]; exact ⟨rfl, p⟩
  clear hQQ
  show Ends (EX D) (u_at kl_13) (0, [some (.ref a0), some (.int p1)], [], h) QQ
  refine en_segs [(0, .aload_n 0, [])] (by decide +kernel) (y := (1, [some (.ref a0), some (.int p1)], [.ref a0], h)) rfl ?_
  refine en_get (by decide +kernel : u_at kl_13 1 = some (.getfield 52, [1, 3])) hW ha0 (by decide) rfl ?_
  refine en_segs [(4, .bipush 6, [])] (by decide +kernel) (y := (6, [some (.ref a0), some (.int p1)], [.int 6, .int (cI c1 3 a0)], h)) rfl ?_
  obtain ⟨t1, hX, hK⟩ := ob_some hF
  have j2 : ∀ h : UH, HW (mkw c0 t1 c2 c3 c4 c5 c6 c7 c8 c9 c10 c11 c12 c13) d h → Ends (EX D) (u_at kl_13) (29, [some (.ref a0), some (.int p1)], [], h) QQ := by
    intro h hW
    have hF := hK
    obtain rfl := Option.some.inj hF
    exact en_ret (by decide +kernel : u_at kl_13 29 = some (.return_, [])) rfl (hQ _ hW)
  have hF := hX
  refine en_ic_ge (by decide +kernel : u_at kl_13 6 = some (.if_icmp .ge 23, [29])) (fun b3 => ?_) (fun b3 => ?_)
  · replace hF := i_pos b3 hF
    obtain rfl := Option.some.inj hF
    exact j2 _ hW
  · replace hF := i_neg b3 hF
    refine en_segs [(9, .aload_n 0, [])] (by decide +kernel) (y := (10, [some (.ref a0), some (.int p1)], [.ref a0], h)) rfl ?_
    refine en_get (by decide +kernel : u_at kl_13 10 = some (.getfield 34, [1, 11])) hW ha0 (by decide) rfl ?_
    refine en_segs [(13, .aload_n 0, [])] (by decide +kernel) (y := (14, [some (.ref a0), some (.int p1)], [.ref a0, .ref (aP d 1 11 a0)], h)) rfl ?_
    refine en_get (by decide +kernel : u_at kl_13 14 = some (.getfield 52, [1, 3])) hW ha0 (by decide) rfl ?_
    refine en_segs [(17, .iload_n 1, [])] (by decide +kernel) (y := (18, [some (.ref a0), some (.int p1)], [.int p1, .int (cI c1 3 a0), .ref (aP d 1 11 a0)], h)) rfl ?_
    obtain ⟨c1_4, hc1_4, hF⟩ := ob_some hF
    refine en_iast (by decide +kernel : u_at kl_13 18 = some (.iastore, [])) hW ha0 rfl (by decide) hc1_4 (fun h hW => ?_)
    have hW : HW (mkw c0 c1_4 c2 c3 c4 c5 c6 c7 c8 c9 c10 c11 c12 c13) d h := hW
    refine en_segs [(19, .aload_n 0, []), (20, .dup, [])] (by decide +kernel) (y := (21, [some (.ref a0), some (.int p1)], [.ref a0, .ref a0], h)) rfl ?_
    refine en_get (by decide +kernel : u_at kl_13 21 = some (.getfield 52, [1, 3])) hW ha0 (by decide) rfl ?_
    refine en_segs [(24, .iconst 1, []), (25, .iadd, [])] (by decide +kernel) (y := (26, [some (.ref a0), some (.int p1)], [.int ((cI c1_4 3 a0) + 1), .ref a0], h)) rfl ?_
    obtain ⟨c1_5, hc1_5, hF⟩ := ob_some hF
    refine en_putI (by decide +kernel : u_at kl_13 26 = some (.putfield 52, [1, 3, 0])) hW ha0 rfl (by decide) rfl (fun h hW => ?_)
    have hW : HW (mkw c0 c1_5 c2 c3 c4 c5 c6 c7 c8 c9 c10 c11 c12 c13) d h := by rw [← Option.some.inj hc1_5]; exact hW
    obtain rfl := Option.some.inj hF
    exact j2 _ hW
def F_27 (c3 : Cl) (a0 : Nat) (p1 : Int32) (p2 : Int32) (p3 : Int32) : Option Cl :=
  ((if 401 ≤ (cI c3 5 a0) then
  some c3
  else
  ast c3 2 a0 401 (cI c3 5 a0) p1 >>= fun c3_4 =>
  ast c3_4 3 a0 401 (cI c3_4 5 a0) p2 >>= fun c3_5 =>
  ast c3_5 4 a0 401 (cI c3_5 5 a0) p3 >>= fun c3_6 =>
  some (sI c3_6 5 a0 ((cI c3_6 5 a0) + 1)) >>= fun c3_7 =>
  some c3_7) : Option (Cl)) >>= fun (t1 : Cl) =>
  some t1
set_option maxRecDepth 100000 in
set_option maxHeartbeats 4000000 in
/-- HeadCounts$Reader.addPiece -/
theorem e_27 {D : Nat} {c0 c1 c2 c3 c4 c5 c6 c7 c8 c9 c10 c11 c12 c13 : Cl} {d : Ad} {h : UH} {a0 : Nat} {p1 : Int32} {p2 : Int32} {p3 : Int32} {r : Cl} (hD : 1 ≤ D) (hW : HW (mkw c0 c1 c2 c3 c4 c5 c6 c7 c8 c9 c10 c11 c12 c13) d h) (ha0 : aK d a0 = (0, 3, 0)) (hF : F_27 c3 a0 p1 p2 p3 = some r) : ∃ q, EX D 27 [.ref a0, .int p1, .int p2, .int p3] h q ∧ q.1 = none ∧ HW (mkw c0 c1 c2 r c4 c5 c6 c7 c8 c9 c10 c11 c12 c13) d q.2 := by
  obtain ⟨D, rfl⟩ : ∃ E, D = E + 1 := ⟨D - 1, by omega⟩
  unfold F_27 at hF
  refine ex_in (kl := kl_27) (nL := 4) rfl (by decide +kernel) (Nat.le_of_ble_eq_true rfl) ?_
  obtain ⟨QQ, hQQ⟩ : ∃ QQ : UR → Prop, QQ = (fun q : UR => q.1 = none ∧ HW (mkw c0 c1 c2 r c4 c5 c6 c7 c8 c9 c10 c11 c12 c13) d q.2) := ⟨_, rfl⟩
  rw [← hQQ]
  have hQ : ∀ h' : UH, HW (mkw c0 c1 c2 r c4 c5 c6 c7 c8 c9 c10 c11 c12 c13) d h' → QQ (none, h') := fun h' p => by rw [hQQ]; exact ⟨rfl, p⟩
  clear hQQ
  show Ends (EX D) (u_at kl_27) (0, [some (.ref a0), some (.int p1), some (.int p2), some (.int p3)], [], h) QQ
  refine en_segs [(0, .aload_n 0, [])] (by decide +kernel) (y := (1, [some (.ref a0), some (.int p1), some (.int p2), some (.int p3)], [.ref a0], h)) rfl ?_
  refine en_get (by decide +kernel : u_at kl_27 1 = some (.getfield 35, [3, 5])) hW ha0 (by decide) rfl ?_
  refine en_segs [(4, .aload_n 0, [])] (by decide +kernel) (y := (5, [some (.ref a0), some (.int p1), some (.int p2), some (.int p3)], [.ref a0, .int (cI c3 5 a0)], h)) rfl ?_
  refine en_get (by decide +kernel : u_at kl_27 5 = some (.getfield 9, [3, 2])) hW ha0 (by decide) rfl ?_
  refine en_len (by decide +kernel : u_at kl_27 8 = some (.arraylength, [])) hW ha0 rfl (by decide) (by decide) rfl ?_
  obtain ⟨t1, hX, hK⟩ := ob_some hF
  have j2 : ∀ h : UH, HW (mkw c0 c1 c2 t1 c4 c5 c6 c7 c8 c9 c10 c11 c12 c13) d h → Ends (EX D) (u_at kl_27) (52, [some (.ref a0), some (.int p1), some (.int p2), some (.int p3)], [], h) QQ := by
    intro h hW
    have hF := hK
    obtain rfl := Option.some.inj hF
    exact en_ret (by decide +kernel : u_at kl_27 52 = some (.return_, [])) rfl (hQ _ hW)
  have hF := hX
  refine en_ic_ge (by decide +kernel : u_at kl_27 9 = some (.if_icmp .ge 43, [52])) (fun b3 => ?_) (fun b3 => ?_)
  · replace hF := i_pos b3 hF
    obtain rfl := Option.some.inj hF
    exact j2 _ hW
  · replace hF := i_neg b3 hF
    refine en_segs [(12, .aload_n 0, [])] (by decide +kernel) (y := (13, [some (.ref a0), some (.int p1), some (.int p2), some (.int p3)], [.ref a0], h)) rfl ?_
    refine en_get (by decide +kernel : u_at kl_27 13 = some (.getfield 9, [3, 2])) hW ha0 (by decide) rfl ?_
    refine en_segs [(16, .aload_n 0, [])] (by decide +kernel) (y := (17, [some (.ref a0), some (.int p1), some (.int p2), some (.int p3)], [.ref a0, .ref (aP d 3 2 a0)], h)) rfl ?_
    refine en_get (by decide +kernel : u_at kl_27 17 = some (.getfield 35, [3, 5])) hW ha0 (by decide) rfl ?_
    refine en_segs [(20, .iload_n 1, [])] (by decide +kernel) (y := (21, [some (.ref a0), some (.int p1), some (.int p2), some (.int p3)], [.int p1, .int (cI c3 5 a0), .ref (aP d 3 2 a0)], h)) rfl ?_
    obtain ⟨c3_4, hc3_4, hF⟩ := ob_some hF
    refine en_iast (by decide +kernel : u_at kl_27 21 = some (.iastore, [])) hW ha0 rfl (by decide) hc3_4 (fun h hW => ?_)
    have hW : HW (mkw c0 c1 c2 c3_4 c4 c5 c6 c7 c8 c9 c10 c11 c12 c13) d h := hW
    refine en_segs [(22, .aload_n 0, [])] (by decide +kernel) (y := (23, [some (.ref a0), some (.int p1), some (.int p2), some (.int p3)], [.ref a0], h)) rfl ?_
    refine en_get (by decide +kernel : u_at kl_27 23 = some (.getfield 15, [3, 3])) hW ha0 (by decide) rfl ?_
    refine en_segs [(26, .aload_n 0, [])] (by decide +kernel) (y := (27, [some (.ref a0), some (.int p1), some (.int p2), some (.int p3)], [.ref a0, .ref (aP d 3 3 a0)], h)) rfl ?_
    refine en_get (by decide +kernel : u_at kl_27 27 = some (.getfield 35, [3, 5])) hW ha0 (by decide) rfl ?_
    refine en_segs [(30, .iload_n 2, [])] (by decide +kernel) (y := (31, [some (.ref a0), some (.int p1), some (.int p2), some (.int p3)], [.int p2, .int (cI c3_4 5 a0), .ref (aP d 3 3 a0)], h)) rfl ?_
    obtain ⟨c3_5, hc3_5, hF⟩ := ob_some hF
    refine en_iast (by decide +kernel : u_at kl_27 31 = some (.iastore, [])) hW ha0 rfl (by decide) hc3_5 (fun h hW => ?_)
    have hW : HW (mkw c0 c1 c2 c3_5 c4 c5 c6 c7 c8 c9 c10 c11 c12 c13) d h := hW
    refine en_segs [(32, .aload_n 0, [])] (by decide +kernel) (y := (33, [some (.ref a0), some (.int p1), some (.int p2), some (.int p3)], [.ref a0], h)) rfl ?_
    refine en_get (by decide +kernel : u_at kl_27 33 = some (.getfield 18, [3, 4])) hW ha0 (by decide) rfl ?_
    refine en_segs [(36, .aload_n 0, [])] (by decide +kernel) (y := (37, [some (.ref a0), some (.int p1), some (.int p2), some (.int p3)], [.ref a0, .ref (aP d 3 4 a0)], h)) rfl ?_
    refine en_get (by decide +kernel : u_at kl_27 37 = some (.getfield 35, [3, 5])) hW ha0 (by decide) rfl ?_
    refine en_segs [(40, .iload_n 3, [])] (by decide +kernel) (y := (41, [some (.ref a0), some (.int p1), some (.int p2), some (.int p3)], [.int p3, .int (cI c3_5 5 a0), .ref (aP d 3 4 a0)], h)) rfl ?_
    obtain ⟨c3_6, hc3_6, hF⟩ := ob_some hF
    refine en_iast (by decide +kernel : u_at kl_27 41 = some (.iastore, [])) hW ha0 rfl (by decide) hc3_6 (fun h hW => ?_)
    have hW : HW (mkw c0 c1 c2 c3_6 c4 c5 c6 c7 c8 c9 c10 c11 c12 c13) d h := hW
    refine en_segs [(42, .aload_n 0, []), (43, .dup, [])] (by decide +kernel) (y := (44, [some (.ref a0), some (.int p1), some (.int p2), some (.int p3)], [.ref a0, .ref a0], h)) rfl ?_
    refine en_get (by decide +kernel : u_at kl_27 44 = some (.getfield 35, [3, 5])) hW ha0 (by decide) rfl ?_
    refine en_segs [(47, .iconst 1, []), (48, .iadd, [])] (by decide +kernel) (y := (49, [some (.ref a0), some (.int p1), some (.int p2), some (.int p3)], [.int ((cI c3_6 5 a0) + 1), .ref a0], h)) rfl ?_
    obtain ⟨c3_7, hc3_7, hF⟩ := ob_some hF
    refine en_putI (by decide +kernel : u_at kl_27 49 = some (.putfield 35, [3, 5, 0])) hW ha0 rfl (by decide) rfl (fun h hW => ?_)
    have hW : HW (mkw c0 c1 c2 c3_7 c4 c5 c6 c7 c8 c9 c10 c11 c12 c13) d h := by rw [← Option.some.inj hc3_7]; exact hW
    obtain rfl := Option.some.inj hF
    exact j2 _ hW
def G_24 (c3 : Cl) (c11 : Cl) (a0 : Nat) (lab : Nat) (xs : List Int32) (ys : List Int64) (zs : List Nat) : Option (Int32 × Cl) := match lab, xs, ys, zs with
  | 0, [x1, x2, x3], [], [] =>
    if (cI c3 1 a0) ≤ x2 then
    G_24 c3 c11 a0 1 [x1, x2, x3] [] []
    else
    ald (cA c11 0 (cR c3 0 a0)) 400 x2 >>= fun v3 =>
    if v3 < 48 then
    G_24 c3 c11 a0 1 [x1, x2, x3] [] []
    else
    ald (cA c11 0 (cR c3 0 a0)) 400 x2 >>= fun v5 =>
    if 57 < v5 then
    G_24 c3 c11 a0 1 [x1, x2, x3] [] []
    else
    ((if 5 ≤ (x2 - x1) then
    some x3
    else
    ald (cA c11 0 (cR c3 0 a0)) 400 x2 >>= fun v10 =>
    some (((x3 * 10) + v10) - 48)) : Option (Int32)) >>= fun (t7 : Int32) =>
    G_24 c3 c11 a0 0 [x1, x2 + 1, t7] [] []
  | 1, [x1, x2, x3], [], [] =>
    ((if (x2 - x1) ≤ 5 then
    some 30
    else
    some 31) : Option (Int32)) >>= fun (t11 : Int32) =>
    F_27 c3 a0 t11 x3 x1 >>= fun r13 =>
    some (x2, r13)
  | _, _, _, _ => none
partial_fixpoint
set_option maxRecDepth 100000 in
set_option maxHeartbeats 4000000 in
theorem g_24 {D : Nat} (hD : 2 ≤ D + 1) {c0 c1 c2 c3 c4 c5 c6 c7 c8 c9 c10 c11 c12 c13 : Cl} {d : Ad} {a0 : Nat} (ha0 : aK d a0 = (0, 3, 0)) : ∀ (lab : Nat) (xs : List Int32) (ys : List Int64) (zs : List Nat) (r : (Int32 × Cl)), G_24 c3 c11 a0 lab xs ys zs = some r →
    (∀ (x1 : Int32) (x2 : Int32) (x3 : Int32), lab = 0 → xs = [x1, x2, x3] → ys = [] → zs = [] → ∀ h : UH, HW (mkw c0 c1 c2 c3 c4 c5 c6 c7 c8 c9 c10 c11 c12 c13) d h → ∀ QQ : UR → Prop, (∀ h' : UH, HW (mkw c0 c1 c2 r.2 c4 c5 c6 c7 c8 c9 c10 c11 c12 c13) d h' → QQ (some (.int r.1), h')) → Ends (EX D) (u_at kl_24) (4, [some (.ref a0), some (.int x1), some (.int x2), some (.int x3)], [], h) QQ) ∧
    (∀ (x1 : Int32) (x2 : Int32) (x3 : Int32), lab = 1 → xs = [x1, x2, x3] → ys = [] → zs = [] → ∀ h : UH, HW (mkw c0 c1 c2 c3 c4 c5 c6 c7 c8 c9 c10 c11 c12 c13) d h → ∀ QQ : UR → Prop, (∀ h' : UH, HW (mkw c0 c1 c2 r.2 c4 c5 c6 c7 c8 c9 c10 c11 c12 c13) d h' → QQ (some (.int r.1), h')) → Ends (EX D) (u_at kl_24) (66, [some (.ref a0), some (.int x1), some (.int x2), some (.int x3)], [], h) QQ) := by
  refine G_24.partial_correctness _ _ _ (motive := fun lab xs ys zs r =>
    (∀ (x1 : Int32) (x2 : Int32) (x3 : Int32), lab = 0 → xs = [x1, x2, x3] → ys = [] → zs = [] → ∀ h : UH, HW (mkw c0 c1 c2 c3 c4 c5 c6 c7 c8 c9 c10 c11 c12 c13) d h → ∀ QQ : UR → Prop, (∀ h' : UH, HW (mkw c0 c1 c2 r.2 c4 c5 c6 c7 c8 c9 c10 c11 c12 c13) d h' → QQ (some (.int r.1), h')) → Ends (EX D) (u_at kl_24) (4, [some (.ref a0), some (.int x1), some (.int x2), some (.int x3)], [], h) QQ) ∧
    (∀ (x1 : Int32) (x2 : Int32) (x3 : Int32), lab = 1 → xs = [x1, x2, x3] → ys = [] → zs = [] → ∀ h : UH, HW (mkw c0 c1 c2 c3 c4 c5 c6 c7 c8 c9 c10 c11 c12 c13) d h → ∀ QQ : UR → Prop, (∀ h' : UH, HW (mkw c0 c1 c2 r.2 c4 c5 c6 c7 c8 c9 c10 c11 c12 c13) d h' → QQ (some (.int r.1), h')) → Ends (EX D) (u_at kl_24) (66, [some (.ref a0), some (.int x1), some (.int x2), some (.int x3)], [], h) QQ)) ?_
  intro G ih lab xs ys zs r hF
  refine ⟨?_, ?_⟩
  · intro x1 x2 x3 e1 e2 e3 e4 h hW QQ hQ
    subst e1 e2 e3 e4
    refine en_segs [(4, .iload_n 2, []), (5, .aload_n 0, [])] (by decide +kernel) (y := (6, [some (.ref a0), some (.int x1), some (.int x2), some (.int x3)], [.ref a0, .int x2], h)) rfl ?_
    refine en_get (by decide +kernel : u_at kl_24 6 = some (.getfield 31, [3, 1])) hW ha0 (by decide) rfl ?_
    refine en_ic_ge (by decide +kernel : u_at kl_24 9 = some (.if_icmp .ge 57, [66])) (fun b1 => ?_) (fun b1 => ?_)
    · replace hF := i_pos b1 hF
      exact (ih _ _ _ _ _ hF).2 _ _ _ rfl rfl rfl rfl  _ hW _ hQ
    · replace hF := i_neg b1 hF
      refine en_segs [(12, .aload_n 0, [])] (by decide +kernel) (y := (13, [some (.ref a0), some (.int x1), some (.int x2), some (.int x3)], [.ref a0], h)) rfl ?_
      have k2 : aK d (cR c3 0 a0) = (0, 11, 0) := wf_tape hW ha0 (by decide) rfl
      refine en_get (by decide +kernel : u_at kl_24 13 = some (.getfield 21, [3, 0])) hW ha0 (by decide) rfl ?_
      refine en_segs [(16, .iload_n 2, [])] (by decide +kernel) (y := (17, [some (.ref a0), some (.int x1), some (.int x2), some (.int x3)], [.int x2, .ref (aP d 11 0 (cR c3 0 a0))], h)) rfl ?_
      obtain ⟨v3, hv3, hF⟩ := ob_some hF
      refine en_bald (by decide +kernel : u_at kl_24 17 = some (.baload, [])) hW k2 rfl (by decide) hv3 ?_
      refine en_segs [(18, .bipush 48, [])] (by decide +kernel) (y := (20, [some (.ref a0), some (.int x1), some (.int x2), some (.int x3)], [.int 48, .int v3], h)) rfl ?_
      refine en_ic_lt (by decide +kernel : u_at kl_24 20 = some (.if_icmp .lt 46, [66])) (fun b4 => ?_) (fun b4 => ?_)
      · replace hF := i_pos b4 hF
        exact (ih _ _ _ _ _ hF).2 _ _ _ rfl rfl rfl rfl  _ hW _ hQ
      · replace hF := i_neg b4 hF
        refine en_segs [(23, .aload_n 0, [])] (by decide +kernel) (y := (24, [some (.ref a0), some (.int x1), some (.int x2), some (.int x3)], [.ref a0], h)) rfl ?_
        refine en_get (by decide +kernel : u_at kl_24 24 = some (.getfield 21, [3, 0])) hW ha0 (by decide) rfl ?_
        refine en_segs [(27, .iload_n 2, [])] (by decide +kernel) (y := (28, [some (.ref a0), some (.int x1), some (.int x2), some (.int x3)], [.int x2, .ref (aP d 11 0 (cR c3 0 a0))], h)) rfl ?_
        obtain ⟨v5, hv5, hF⟩ := ob_some hF
        refine en_bald (by decide +kernel : u_at kl_24 28 = some (.baload, [])) hW k2 rfl (by decide) hv5 ?_
        refine en_segs [(29, .bipush 57, [])] (by decide +kernel) (y := (31, [some (.ref a0), some (.int x1), some (.int x2), some (.int x3)], [.int 57, .int v5], h)) rfl ?_
        refine en_ic_gt (by decide +kernel : u_at kl_24 31 = some (.if_icmp .gt 35, [66])) (fun b6 => ?_) (fun b6 => ?_)
        · replace hF := i_pos b6 hF
          exact (ih _ _ _ _ _ hF).2 _ _ _ rfl rfl rfl rfl  _ hW _ hQ
        · replace hF := i_neg b6 hF
          refine en_segs [(34, .iload_n 2, []), (35, .iload_n 1, []), (36, .isub, []), (37, .iconst 5, [])] (by decide +kernel) (y := (38, [some (.ref a0), some (.int x1), some (.int x2), some (.int x3)], [.int 5, .int (x2 - x1)], h)) rfl ?_
          obtain ⟨t7, hX, hK⟩ := ob_some hF
          have j8 : ∀ h : UH, HW (mkw c0 c1 c2 c3 c4 c5 c6 c7 c8 c9 c10 c11 c12 c13) d h → Ends (EX D) (u_at kl_24) (59, [some (.ref a0), some (.int x1), some (.int x2), some (.int x3)], [.int t7], h) QQ := by
            intro h hW
            have hF := hK
            refine en_segs [(59, .istore_n 3, []), (60, .iinc 2 1, []), (63, .goto (-59), [4])] (by decide +kernel) (y := (4, [some (.ref a0), some (.int x1), some (.int (x2 + 1)), some (.int t7)], [], h)) rfl ?_
            exact (ih _ _ _ _ _ hF).1 _ _ _ rfl rfl rfl rfl  _ hW _ hQ
          have hF := hX
          refine en_ic_ge (by decide +kernel : u_at kl_24 38 = some (.if_icmp .ge 20, [58])) (fun b9 => ?_) (fun b9 => ?_)
          · replace hF := i_pos b9 hF
            refine en_segs [(58, .iload_n 3, [])] (by decide +kernel) (y := (59, [some (.ref a0), some (.int x1), some (.int x2), some (.int x3)], [.int x3], h)) rfl ?_
            obtain rfl := Option.some.inj hF
            exact j8 _ hW
          · replace hF := i_neg b9 hF
            refine en_segs [(41, .iload_n 3, []), (42, .bipush 10, []), (44, .imul, []), (45, .aload_n 0, [])] (by decide +kernel) (y := (46, [some (.ref a0), some (.int x1), some (.int x2), some (.int x3)], [.ref a0, .int (x3 * 10)], h)) rfl ?_
            refine en_get (by decide +kernel : u_at kl_24 46 = some (.getfield 21, [3, 0])) hW ha0 (by decide) rfl ?_
            refine en_segs [(49, .iload_n 2, [])] (by decide +kernel) (y := (50, [some (.ref a0), some (.int x1), some (.int x2), some (.int x3)], [.int x2, .ref (aP d 11 0 (cR c3 0 a0)), .int (x3 * 10)], h)) rfl ?_
            obtain ⟨v10, hv10, hF⟩ := ob_some hF
            refine en_bald (by decide +kernel : u_at kl_24 50 = some (.baload, [])) hW k2 rfl (by decide) hv10 ?_
            refine en_segs [(51, .iadd, []), (52, .bipush 48, []), (54, .isub, []), (55, .goto 4, [59])] (by decide +kernel) (y := (59, [some (.ref a0), some (.int x1), some (.int x2), some (.int x3)], [.int (((x3 * 10) + v10) - 48)], h)) rfl ?_
            obtain rfl := Option.some.inj hF
            exact j8 _ hW
  · intro x1 x2 x3 e1 e2 e3 e4 h hW QQ hQ
    subst e1 e2 e3 e4
    refine en_segs [(66, .aload_n 0, []), (67, .iload_n 2, []), (68, .iload_n 1, []), (69, .isub, []), (70, .iconst 5, [])] (by decide +kernel) (y := (71, [some (.ref a0), some (.int x1), some (.int x2), some (.int x3)], [.int 5, .int (x2 - x1), .ref a0], h)) rfl ?_
    obtain ⟨t11, hX, hK⟩ := ob_some hF
    have j12 : ∀ h : UH, HW (mkw c0 c1 c2 c3 c4 c5 c6 c7 c8 c9 c10 c11 c12 c13) d h → Ends (EX D) (u_at kl_24) (81, [some (.ref a0), some (.int x1), some (.int x2), some (.int x3)], [.int t11, .ref a0], h) QQ := by
      intro h hW
      have hF := hK
      refine en_segs [(81, .iload_n 3, []), (82, .iload_n 1, [])] (by decide +kernel) (y := (83, [some (.ref a0), some (.int x1), some (.int x2), some (.int x3)], [.int x1, .int x3, .int t11, .ref a0], h)) rfl ?_
      obtain ⟨r13, hr13, hF⟩ := ob_some hF
      refine en_vv (r := []) (by decide +kernel : u_at kl_24 83 = some (.invokevirtual 48, [27, 3, 3])) hW ha0 rfl rfl (Nat.le_of_ble_eq_true rfl) (e_27 (D := D) (by omega) hW ha0 hr13) (fun h hW => ?_)
      have hW : HW (mkw c0 c1 c2 r13 c4 c5 c6 c7 c8 c9 c10 c11 c12 c13) d h := hW
      refine en_segs [(86, .iload_n 2, [])] (by decide +kernel) (y := (87, [some (.ref a0), some (.int x1), some (.int x2), some (.int x3)], [.int x2], h)) rfl ?_
      obtain rfl := Option.some.inj hF
      exact en_ret (by decide +kernel : u_at kl_24 87 = some (.ireturn, [0])) rfl (hQ _ hW)
    have hF := hX
    refine en_ic_le (by decide +kernel : u_at kl_24 71 = some (.if_icmp .le 8, [79])) (fun b14 => ?_) (fun b14 => ?_)
    · replace hF := i_pos b14 hF
      refine en_segs [(79, .bipush 30, [])] (by decide +kernel) (y := (81, [some (.ref a0), some (.int x1), some (.int x2), some (.int x3)], [.int 30, .ref a0], h)) rfl ?_
      obtain rfl := Option.some.inj hF
      exact j12 _ hW
    · replace hF := i_neg b14 hF
      refine en_segs [(74, .bipush 31, []), (76, .goto 5, [81])] (by decide +kernel) (y := (81, [some (.ref a0), some (.int x1), some (.int x2), some (.int x3)], [.int 31, .ref a0], h)) rfl ?_
      obtain rfl := Option.some.inj hF
      exact j12 _ hW
def F_24 (c3 : Cl) (c11 : Cl) (a0 : Nat) (p1 : Int32) : Option (Int32 × Cl) :=
  G_24 c3 c11 a0 0 [p1, p1, 0] [] []
set_option maxRecDepth 100000 in
set_option maxHeartbeats 4000000 in
/-- HeadCounts$Reader.cutNumber -/
theorem e_24 {D : Nat} {c0 c1 c2 c3 c4 c5 c6 c7 c8 c9 c10 c11 c12 c13 : Cl} {d : Ad} {h : UH} {a0 : Nat} {p1 : Int32} {r : (Int32 × Cl)} (hD : 2 ≤ D) (hW : HW (mkw c0 c1 c2 c3 c4 c5 c6 c7 c8 c9 c10 c11 c12 c13) d h) (ha0 : aK d a0 = (0, 3, 0)) (hF : F_24 c3 c11 a0 p1 = some r) : ∃ q, EX D 24 [.ref a0, .int p1] h q ∧ q.1 = some (.int r.1) ∧ HW (mkw c0 c1 c2 r.2 c4 c5 c6 c7 c8 c9 c10 c11 c12 c13) d q.2 := by
  obtain ⟨D, rfl⟩ : ∃ E, D = E + 1 := ⟨D - 1, by omega⟩
  unfold F_24 at hF
  refine ex_in (kl := kl_24) (nL := 4) rfl (by decide +kernel) (Nat.le_of_ble_eq_true rfl) ?_
  obtain ⟨QQ, hQQ⟩ : ∃ QQ : UR → Prop, QQ = (fun q : UR => q.1 = some (.int r.1) ∧ HW (mkw c0 c1 c2 r.2 c4 c5 c6 c7 c8 c9 c10 c11 c12 c13) d q.2) := ⟨_, rfl⟩
  rw [← hQQ]
  have hQ : ∀ h' : UH, HW (mkw c0 c1 c2 r.2 c4 c5 c6 c7 c8 c9 c10 c11 c12 c13) d h' → QQ (some (.int r.1), h') := fun h' p => by rw [hQQ]; exact ⟨rfl, p⟩
  clear hQQ
  show Ends (EX D) (u_at kl_24) (0, [some (.ref a0), some (.int p1), none, none], [], h) QQ
  refine en_segs [(0, .iload_n 1, []), (1, .istore_n 2, []), (2, .iconst 0, []), (3, .istore_n 3, [])] (by decide +kernel) (y := (4, [some (.ref a0), some (.int p1), some (.int p1), some (.int 0)], [], h)) rfl ?_
  exact (g_24 (D := D) hD ha0 _ _ _ _ _ hF).1 _ _ _ rfl rfl rfl rfl  _ hW _ hQ
def G_25 (c3 : Cl) (c11 : Cl) (a0 : Nat) (lab : Nat) (xs : List Int32) (ys : List Int64) (zs : List Nat) : Option (Int32 × Cl) := match lab, xs, ys, zs with
  | 0, [x1, x2], [], [] =>
    if (cI c3 1 a0) ≤ x2 then
    G_25 c3 c11 a0 1 [x1, x2] [] []
    else
    ald (cA c11 0 (cR c3 0 a0)) 400 x2 >>= fun v3 =>
    if v3 < 97 then
    G_25 c3 c11 a0 1 [x1, x2] [] []
    else
    ald (cA c11 0 (cR c3 0 a0)) 400 x2 >>= fun v5 =>
    if 122 < v5 then
    G_25 c3 c11 a0 1 [x1, x2] [] []
    else
    G_25 c3 c11 a0 0 [x1, x2 + 1] [] []
  | 1, [x1, x2], [], [] =>
    F_26 c3 c11 a0 x1 x2 >>= fun r7 =>
    F_27 c3 a0 r7 0 x1 >>= fun r8 =>
    some (x2, r8)
  | _, _, _, _ => none
partial_fixpoint
set_option maxRecDepth 100000 in
set_option maxHeartbeats 4000000 in
theorem g_25 {D : Nat} (hD : 2 ≤ D + 1) {c0 c1 c2 c3 c4 c5 c6 c7 c8 c9 c10 c11 c12 c13 : Cl} {d : Ad} {a0 : Nat} (ha0 : aK d a0 = (0, 3, 0)) : ∀ (lab : Nat) (xs : List Int32) (ys : List Int64) (zs : List Nat) (r : (Int32 × Cl)), G_25 c3 c11 a0 lab xs ys zs = some r →
    (∀ (x1 : Int32) (x2 : Int32), lab = 0 → xs = [x1, x2] → ys = [] → zs = [] → ∀ h : UH, HW (mkw c0 c1 c2 c3 c4 c5 c6 c7 c8 c9 c10 c11 c12 c13) d h → ∀ QQ : UR → Prop, (∀ h' : UH, HW (mkw c0 c1 c2 r.2 c4 c5 c6 c7 c8 c9 c10 c11 c12 c13) d h' → QQ (some (.int r.1), h')) → Ends (EX D) (u_at kl_25) (2, [some (.ref a0), some (.int x1), some (.int x2)], [], h) QQ) ∧
    (∀ (x1 : Int32) (x2 : Int32), lab = 1 → xs = [x1, x2] → ys = [] → zs = [] → ∀ h : UH, HW (mkw c0 c1 c2 c3 c4 c5 c6 c7 c8 c9 c10 c11 c12 c13) d h → ∀ QQ : UR → Prop, (∀ h' : UH, HW (mkw c0 c1 c2 r.2 c4 c5 c6 c7 c8 c9 c10 c11 c12 c13) d h' → QQ (some (.int r.1), h')) → Ends (EX D) (u_at kl_25) (38, [some (.ref a0), some (.int x1), some (.int x2)], [], h) QQ) := by
  refine G_25.partial_correctness _ _ _ (motive := fun lab xs ys zs r =>
    (∀ (x1 : Int32) (x2 : Int32), lab = 0 → xs = [x1, x2] → ys = [] → zs = [] → ∀ h : UH, HW (mkw c0 c1 c2 c3 c4 c5 c6 c7 c8 c9 c10 c11 c12 c13) d h → ∀ QQ : UR → Prop, (∀ h' : UH, HW (mkw c0 c1 c2 r.2 c4 c5 c6 c7 c8 c9 c10 c11 c12 c13) d h' → QQ (some (.int r.1), h')) → Ends (EX D) (u_at kl_25) (2, [some (.ref a0), some (.int x1), some (.int x2)], [], h) QQ) ∧
    (∀ (x1 : Int32) (x2 : Int32), lab = 1 → xs = [x1, x2] → ys = [] → zs = [] → ∀ h : UH, HW (mkw c0 c1 c2 c3 c4 c5 c6 c7 c8 c9 c10 c11 c12 c13) d h → ∀ QQ : UR → Prop, (∀ h' : UH, HW (mkw c0 c1 c2 r.2 c4 c5 c6 c7 c8 c9 c10 c11 c12 c13) d h' → QQ (some (.int r.1), h')) → Ends (EX D) (u_at kl_25) (38, [some (.ref a0), some (.int x1), some (.int x2)], [], h) QQ)) ?_
  intro G ih lab xs ys zs r hF
  refine ⟨?_, ?_⟩
  · intro x1 x2 e1 e2 e3 e4 h hW QQ hQ
    subst e1 e2 e3 e4
    refine en_segs [(2, .iload_n 2, []), (3, .aload_n 0, [])] (by decide +kernel) (y := (4, [some (.ref a0), some (.int x1), some (.int x2)], [.ref a0, .int x2], h)) rfl ?_
    refine en_get (by decide +kernel : u_at kl_25 4 = some (.getfield 31, [3, 1])) hW ha0 (by decide) rfl ?_
    refine en_ic_ge (by decide +kernel : u_at kl_25 7 = some (.if_icmp .ge 31, [38])) (fun b1 => ?_) (fun b1 => ?_)
    · replace hF := i_pos b1 hF
      exact (ih _ _ _ _ _ hF).2 _ _ rfl rfl rfl rfl  _ hW _ hQ
    · replace hF := i_neg b1 hF
      refine en_segs [(10, .aload_n 0, [])] (by decide +kernel) (y := (11, [some (.ref a0), some (.int x1), some (.int x2)], [.ref a0], h)) rfl ?_
      have k2 : aK d (cR c3 0 a0) = (0, 11, 0) := wf_tape hW ha0 (by decide) rfl
      refine en_get (by decide +kernel : u_at kl_25 11 = some (.getfield 21, [3, 0])) hW ha0 (by decide) rfl ?_
      refine en_segs [(14, .iload_n 2, [])] (by decide +kernel) (y := (15, [some (.ref a0), some (.int x1), some (.int x2)], [.int x2, .ref (aP d 11 0 (cR c3 0 a0))], h)) rfl ?_
      obtain ⟨v3, hv3, hF⟩ := ob_some hF
      refine en_bald (by decide +kernel : u_at kl_25 15 = some (.baload, [])) hW k2 rfl (by decide) hv3 ?_
      refine en_segs [(16, .bipush 97, [])] (by decide +kernel) (y := (18, [some (.ref a0), some (.int x1), some (.int x2)], [.int 97, .int v3], h)) rfl ?_
      refine en_ic_lt (by decide +kernel : u_at kl_25 18 = some (.if_icmp .lt 20, [38])) (fun b4 => ?_) (fun b4 => ?_)
      · replace hF := i_pos b4 hF
        exact (ih _ _ _ _ _ hF).2 _ _ rfl rfl rfl rfl  _ hW _ hQ
      · replace hF := i_neg b4 hF
        refine en_segs [(21, .aload_n 0, [])] (by decide +kernel) (y := (22, [some (.ref a0), some (.int x1), some (.int x2)], [.ref a0], h)) rfl ?_
        refine en_get (by decide +kernel : u_at kl_25 22 = some (.getfield 21, [3, 0])) hW ha0 (by decide) rfl ?_
        refine en_segs [(25, .iload_n 2, [])] (by decide +kernel) (y := (26, [some (.ref a0), some (.int x1), some (.int x2)], [.int x2, .ref (aP d 11 0 (cR c3 0 a0))], h)) rfl ?_
        obtain ⟨v5, hv5, hF⟩ := ob_some hF
        refine en_bald (by decide +kernel : u_at kl_25 26 = some (.baload, [])) hW k2 rfl (by decide) hv5 ?_
        refine en_segs [(27, .bipush 122, [])] (by decide +kernel) (y := (29, [some (.ref a0), some (.int x1), some (.int x2)], [.int 122, .int v5], h)) rfl ?_
        refine en_ic_gt (by decide +kernel : u_at kl_25 29 = some (.if_icmp .gt 9, [38])) (fun b6 => ?_) (fun b6 => ?_)
        · replace hF := i_pos b6 hF
          exact (ih _ _ _ _ _ hF).2 _ _ rfl rfl rfl rfl  _ hW _ hQ
        · replace hF := i_neg b6 hF
          refine en_segs [(32, .iinc 2 1, []), (35, .goto (-33), [2])] (by decide +kernel) (y := (2, [some (.ref a0), some (.int x1), some (.int (x2 + 1))], [], h)) rfl ?_
          exact (ih _ _ _ _ _ hF).1 _ _ rfl rfl rfl rfl  _ hW _ hQ
  · intro x1 x2 e1 e2 e3 e4 h hW QQ hQ
    subst e1 e2 e3 e4
    refine en_segs [(38, .aload_n 0, []), (39, .aload_n 0, []), (40, .iload_n 1, []), (41, .iload_n 2, [])] (by decide +kernel) (y := (42, [some (.ref a0), some (.int x1), some (.int x2)], [.int x2, .int x1, .ref a0, .ref a0], h)) rfl ?_
    obtain ⟨r7, hr7, hF⟩ := ob_some hF
    refine en_vi (r := [.ref a0]) (by decide +kernel : u_at kl_25 42 = some (.invokevirtual 58, [26, 2, 3])) hW ha0 rfl rfl (Nat.le_of_ble_eq_true rfl) (e_26 (D := D) (by omega) hW ha0 hr7) (fun h' q => ?_)
    subst q
    refine en_segs [(45, .iconst 0, []), (46, .iload_n 1, [])] (by decide +kernel) (y := (47, [some (.ref a0), some (.int x1), some (.int x2)], [.int x1, .int 0, .int r7, .ref a0], h)) rfl ?_
    obtain ⟨r8, hr8, hF⟩ := ob_some hF
    refine en_vv (r := []) (by decide +kernel : u_at kl_25 47 = some (.invokevirtual 48, [27, 3, 3])) hW ha0 rfl rfl (Nat.le_of_ble_eq_true rfl) (e_27 (D := D) (by omega) hW ha0 hr8) (fun h hW => ?_)
    have hW : HW (mkw c0 c1 c2 r8 c4 c5 c6 c7 c8 c9 c10 c11 c12 c13) d h := hW
    refine en_segs [(50, .iload_n 2, [])] (by decide +kernel) (y := (51, [some (.ref a0), some (.int x1), some (.int x2)], [.int x2], h)) rfl ?_
    obtain rfl := Option.some.inj hF
    exact en_ret (by decide +kernel : u_at kl_25 51 = some (.ireturn, [0])) rfl (hQ _ hW)
def F_25 (c3 : Cl) (c11 : Cl) (a0 : Nat) (p1 : Int32) : Option (Int32 × Cl) :=
  G_25 c3 c11 a0 0 [p1, p1] [] []
set_option maxRecDepth 100000 in
set_option maxHeartbeats 4000000 in
/-- HeadCounts$Reader.cutWord -/
theorem e_25 {D : Nat} {c0 c1 c2 c3 c4 c5 c6 c7 c8 c9 c10 c11 c12 c13 : Cl} {d : Ad} {h : UH} {a0 : Nat} {p1 : Int32} {r : (Int32 × Cl)} (hD : 2 ≤ D) (hW : HW (mkw c0 c1 c2 c3 c4 c5 c6 c7 c8 c9 c10 c11 c12 c13) d h) (ha0 : aK d a0 = (0, 3, 0)) (hF : F_25 c3 c11 a0 p1 = some r) : ∃ q, EX D 25 [.ref a0, .int p1] h q ∧ q.1 = some (.int r.1) ∧ HW (mkw c0 c1 c2 r.2 c4 c5 c6 c7 c8 c9 c10 c11 c12 c13) d q.2 := by
  obtain ⟨D, rfl⟩ : ∃ E, D = E + 1 := ⟨D - 1, by omega⟩
  unfold F_25 at hF
  refine ex_in (kl := kl_25) (nL := 3) rfl (by decide +kernel) (Nat.le_of_ble_eq_true rfl) ?_
  obtain ⟨QQ, hQQ⟩ : ∃ QQ : UR → Prop, QQ = (fun q : UR => q.1 = some (.int r.1) ∧ HW (mkw c0 c1 c2 r.2 c4 c5 c6 c7 c8 c9 c10 c11 c12 c13) d q.2) := ⟨_, rfl⟩
  rw [← hQQ]
  have hQ : ∀ h' : UH, HW (mkw c0 c1 c2 r.2 c4 c5 c6 c7 c8 c9 c10 c11 c12 c13) d h' → QQ (some (.int r.1), h') := fun h' p => by rw [hQQ]; exact ⟨rfl, p⟩
  clear hQQ
  show Ends (EX D) (u_at kl_25) (0, [some (.ref a0), some (.int p1), none], [], h) QQ
  refine en_segs [(0, .iload_n 1, []), (1, .istore_n 2, [])] (by decide +kernel) (y := (2, [some (.ref a0), some (.int p1), some (.int p1)], [], h)) rfl ?_
  exact (g_25 (D := D) hD ha0 _ _ _ _ _ hF).1 _ _ rfl rfl rfl rfl  _ hW _ hQ
def G_23 (c3 : Cl) (c11 : Cl) (a0 : Nat) (lab : Nat) (xs : List Int32) (ys : List Int64) (zs : List Nat) : Option (Int32 × Cl) := match lab, xs, ys, zs with
  | 0, [x1, x2], [], [] =>
    if x2 < 97 then
    G_23 c3 c11 a0 1 [x1, x2] [] []
    else
    if 122 < x2 then
    G_23 c3 c11 a0 1 [x1, x2] [] []
    else
    F_25 c3 c11 a0 x1 >>= fun r8 =>
    some (r8.1, r8.2)
  | 1, [x1, x2], [], [] =>
    if x2 = 60 then
    G_23 c3 c11 a0 2 [x1, x2] [] []
    else
    if x2 = 62 then
    G_23 c3 c11 a0 2 [x1, x2] [] []
    else
    G_23 c3 c11 a0 3 [x1, x2] [] []
  | 2, [x1, x2], [], [] =>
    if (cI c3 1 a0) ≤ (x1 + 1) then
    G_23 c3 c11 a0 3 [x1, x2] [] []
    else
    ald (cA c11 0 (cR c3 0 a0)) 400 (x1 + 1) >>= fun v13 =>
    if v13 = 61 then
    ((if x2 = 60 then
    some 32
    else
    some 33) : Option (Int32)) >>= fun (t15 : Int32) =>
    F_27 c3 a0 t15 0 x1 >>= fun r17 =>
    some (x1 + 2, r17)
    else
    G_23 c3 c11 a0 3 [x1, x2] [] []
  | 3, [x1, x2], [], [] =>
    F_27 c3 a0 (100 + (x2 &&& 255)) 0 x1 >>= fun r19 =>
    some (x1 + 1, r19)
  | _, _, _, _ => none
partial_fixpoint
set_option maxRecDepth 100000 in
set_option maxHeartbeats 4000000 in
theorem g_23 {D : Nat} (hD : 3 ≤ D + 1) {c0 c1 c2 c3 c4 c5 c6 c7 c8 c9 c10 c11 c12 c13 : Cl} {d : Ad} {a0 : Nat} (ha0 : aK d a0 = (0, 3, 0)) : ∀ (lab : Nat) (xs : List Int32) (ys : List Int64) (zs : List Nat) (r : (Int32 × Cl)), G_23 c3 c11 a0 lab xs ys zs = some r →
    (∀ (x1 : Int32) (x2 : Int32), lab = 0 → xs = [x1, x2] → ys = [] → zs = [] → ∀ h : UH, HW (mkw c0 c1 c2 c3 c4 c5 c6 c7 c8 c9 c10 c11 c12 c13) d h → ∀ QQ : UR → Prop, (∀ h' : UH, HW (mkw c0 c1 c2 r.2 c4 c5 c6 c7 c8 c9 c10 c11 c12 c13) d h' → QQ (some (.int r.1), h')) → Ends (EX D) (u_at kl_23) (25, [some (.ref a0), some (.int x1), some (.int x2)], [], h) QQ) ∧
    (∀ (x1 : Int32) (x2 : Int32), lab = 1 → xs = [x1, x2] → ys = [] → zs = [] → ∀ h : UH, HW (mkw c0 c1 c2 c3 c4 c5 c6 c7 c8 c9 c10 c11 c12 c13) d h → ∀ QQ : UR → Prop, (∀ h' : UH, HW (mkw c0 c1 c2 r.2 c4 c5 c6 c7 c8 c9 c10 c11 c12 c13) d h' → QQ (some (.int r.1), h')) → Ends (EX D) (u_at kl_23) (43, [some (.ref a0), some (.int x1), some (.int x2)], [], h) QQ) ∧
    (∀ (x1 : Int32) (x2 : Int32), lab = 2 → xs = [x1, x2] → ys = [] → zs = [] → ∀ h : UH, HW (mkw c0 c1 c2 c3 c4 c5 c6 c7 c8 c9 c10 c11 c12 c13) d h → ∀ QQ : UR → Prop, (∀ h' : UH, HW (mkw c0 c1 c2 r.2 c4 c5 c6 c7 c8 c9 c10 c11 c12 c13) d h' → QQ (some (.int r.1), h')) → Ends (EX D) (u_at kl_23) (55, [some (.ref a0), some (.int x1), some (.int x2)], [], h) QQ) ∧
    (∀ (x1 : Int32) (x2 : Int32), lab = 3 → xs = [x1, x2] → ys = [] → zs = [] → ∀ h : UH, HW (mkw c0 c1 c2 c3 c4 c5 c6 c7 c8 c9 c10 c11 c12 c13) d h → ∀ QQ : UR → Prop, (∀ h' : UH, HW (mkw c0 c1 c2 r.2 c4 c5 c6 c7 c8 c9 c10 c11 c12 c13) d h' → QQ (some (.int r.1), h')) → Ends (EX D) (u_at kl_23) (101, [some (.ref a0), some (.int x1), some (.int x2)], [], h) QQ) := by
  refine G_23.partial_correctness _ _ _ (motive := fun lab xs ys zs r =>
    (∀ (x1 : Int32) (x2 : Int32), lab = 0 → xs = [x1, x2] → ys = [] → zs = [] → ∀ h : UH, HW (mkw c0 c1 c2 c3 c4 c5 c6 c7 c8 c9 c10 c11 c12 c13) d h → ∀ QQ : UR → Prop, (∀ h' : UH, HW (mkw c0 c1 c2 r.2 c4 c5 c6 c7 c8 c9 c10 c11 c12 c13) d h' → QQ (some (.int r.1), h')) → Ends (EX D) (u_at kl_23) (25, [some (.ref a0), some (.int x1), some (.int x2)], [], h) QQ) ∧
    (∀ (x1 : Int32) (x2 : Int32), lab = 1 → xs = [x1, x2] → ys = [] → zs = [] → ∀ h : UH, HW (mkw c0 c1 c2 c3 c4 c5 c6 c7 c8 c9 c10 c11 c12 c13) d h → ∀ QQ : UR → Prop, (∀ h' : UH, HW (mkw c0 c1 c2 r.2 c4 c5 c6 c7 c8 c9 c10 c11 c12 c13) d h' → QQ (some (.int r.1), h')) → Ends (EX D) (u_at kl_23) (43, [some (.ref a0), some (.int x1), some (.int x2)], [], h) QQ) ∧
    (∀ (x1 : Int32) (x2 : Int32), lab = 2 → xs = [x1, x2] → ys = [] → zs = [] → ∀ h : UH, HW (mkw c0 c1 c2 c3 c4 c5 c6 c7 c8 c9 c10 c11 c12 c13) d h → ∀ QQ : UR → Prop, (∀ h' : UH, HW (mkw c0 c1 c2 r.2 c4 c5 c6 c7 c8 c9 c10 c11 c12 c13) d h' → QQ (some (.int r.1), h')) → Ends (EX D) (u_at kl_23) (55, [some (.ref a0), some (.int x1), some (.int x2)], [], h) QQ) ∧
    (∀ (x1 : Int32) (x2 : Int32), lab = 3 → xs = [x1, x2] → ys = [] → zs = [] → ∀ h : UH, HW (mkw c0 c1 c2 c3 c4 c5 c6 c7 c8 c9 c10 c11 c12 c13) d h → ∀ QQ : UR → Prop, (∀ h' : UH, HW (mkw c0 c1 c2 r.2 c4 c5 c6 c7 c8 c9 c10 c11 c12 c13) d h' → QQ (some (.int r.1), h')) → Ends (EX D) (u_at kl_23) (101, [some (.ref a0), some (.int x1), some (.int x2)], [], h) QQ)) ?_
  intro G ih lab xs ys zs r hF
  refine ⟨?_, ?_, ?_, ?_⟩
  · intro x1 x2 e1 e2 e3 e4 h hW QQ hQ
    subst e1 e2 e3 e4
    refine en_segs [(25, .iload_n 2, []), (26, .bipush 97, [])] (by decide +kernel) (y := (28, [some (.ref a0), some (.int x1), some (.int x2)], [.int 97, .int x2], h)) rfl ?_
    refine en_ic_lt (by decide +kernel : u_at kl_23 28 = some (.if_icmp .lt 15, [43])) (fun b6 => ?_) (fun b6 => ?_)
    · replace hF := i_pos b6 hF
      exact (ih _ _ _ _ _ hF).2.1 _ _ rfl rfl rfl rfl  _ hW _ hQ
    · replace hF := i_neg b6 hF
      refine en_segs [(31, .iload_n 2, []), (32, .bipush 122, [])] (by decide +kernel) (y := (34, [some (.ref a0), some (.int x1), some (.int x2)], [.int 122, .int x2], h)) rfl ?_
      refine en_ic_gt (by decide +kernel : u_at kl_23 34 = some (.if_icmp .gt 9, [43])) (fun b7 => ?_) (fun b7 => ?_)
      · replace hF := i_pos b7 hF
        exact (ih _ _ _ _ _ hF).2.1 _ _ rfl rfl rfl rfl  _ hW _ hQ
      · replace hF := i_neg b7 hF
        refine en_segs [(37, .aload_n 0, []), (38, .iload_n 1, [])] (by decide +kernel) (y := (39, [some (.ref a0), some (.int x1), some (.int x2)], [.int x1, .ref a0], h)) rfl ?_
        obtain ⟨r8, hr8, hF⟩ := ob_some hF
        refine en_vi (r := []) (by decide +kernel : u_at kl_23 39 = some (.invokevirtual 55, [25, 1, 3])) hW ha0 rfl rfl (Nat.le_of_ble_eq_true rfl) (e_25 (D := D) (by omega) hW ha0 hr8) (fun h hW => ?_)
        have hW : HW (mkw c0 c1 c2 r8.2 c4 c5 c6 c7 c8 c9 c10 c11 c12 c13) d h := hW
        obtain rfl := Option.some.inj hF
        exact en_ret (by decide +kernel : u_at kl_23 42 = some (.ireturn, [0])) rfl (hQ _ hW)
  · intro x1 x2 e1 e2 e3 e4 h hW QQ hQ
    subst e1 e2 e3 e4
    refine en_segs [(43, .iload_n 2, []), (44, .bipush 60, [])] (by decide +kernel) (y := (46, [some (.ref a0), some (.int x1), some (.int x2)], [.int 60, .int x2], h)) rfl ?_
    refine en_ic_eq (by decide +kernel : u_at kl_23 46 = some (.if_icmp .eq 9, [55])) (fun b9 => ?_) (fun b9 => ?_)
    · replace hF := i_pos b9 hF
      exact (ih _ _ _ _ _ hF).2.2.1 _ _ rfl rfl rfl rfl  _ hW _ hQ
    · replace hF := i_neg b9 hF
      refine en_segs [(49, .iload_n 2, []), (50, .bipush 62, [])] (by decide +kernel) (y := (52, [some (.ref a0), some (.int x1), some (.int x2)], [.int 62, .int x2], h)) rfl ?_
      refine en_ic_ne (by decide +kernel : u_at kl_23 52 = some (.if_icmp .ne 49, [101])) (fun b10 => ?_) (fun b10 => ?_)
      · replace hF := i_pos b10 hF
        exact (ih _ _ _ _ _ hF).2.2.1 _ _ rfl rfl rfl rfl  _ hW _ hQ
      · replace hF := i_neg b10 hF
        exact (ih _ _ _ _ _ hF).2.2.2 _ _ rfl rfl rfl rfl  _ hW _ hQ
  · intro x1 x2 e1 e2 e3 e4 h hW QQ hQ
    subst e1 e2 e3 e4
    refine en_segs [(55, .iload_n 1, []), (56, .iconst 1, []), (57, .iadd, []), (58, .aload_n 0, [])] (by decide +kernel) (y := (59, [some (.ref a0), some (.int x1), some (.int x2)], [.ref a0, .int (x1 + 1)], h)) rfl ?_
    refine en_get (by decide +kernel : u_at kl_23 59 = some (.getfield 31, [3, 1])) hW ha0 (by decide) rfl ?_
    refine en_ic_ge (by decide +kernel : u_at kl_23 62 = some (.if_icmp .ge 39, [101])) (fun b11 => ?_) (fun b11 => ?_)
    · replace hF := i_pos b11 hF
      exact (ih _ _ _ _ _ hF).2.2.2 _ _ rfl rfl rfl rfl  _ hW _ hQ
    · replace hF := i_neg b11 hF
      refine en_segs [(65, .aload_n 0, [])] (by decide +kernel) (y := (66, [some (.ref a0), some (.int x1), some (.int x2)], [.ref a0], h)) rfl ?_
      have k12 : aK d (cR c3 0 a0) = (0, 11, 0) := wf_tape hW ha0 (by decide) rfl
      refine en_get (by decide +kernel : u_at kl_23 66 = some (.getfield 21, [3, 0])) hW ha0 (by decide) rfl ?_
      refine en_segs [(69, .iload_n 1, []), (70, .iconst 1, []), (71, .iadd, [])] (by decide +kernel) (y := (72, [some (.ref a0), some (.int x1), some (.int x2)], [.int (x1 + 1), .ref (aP d 11 0 (cR c3 0 a0))], h)) rfl ?_
      obtain ⟨v13, hv13, hF⟩ := ob_some hF
      refine en_bald (by decide +kernel : u_at kl_23 72 = some (.baload, [])) hW k12 rfl (by decide) hv13 ?_
      refine en_segs [(73, .bipush 61, [])] (by decide +kernel) (y := (75, [some (.ref a0), some (.int x1), some (.int x2)], [.int 61, .int v13], h)) rfl ?_
      refine en_ic_ne (by decide +kernel : u_at kl_23 75 = some (.if_icmp .ne 26, [101])) (fun b14 => ?_) (fun b14 => ?_)
      · replace hF := i_pos b14 hF
        refine en_segs [(78, .aload_n 0, []), (79, .iload_n 2, []), (80, .bipush 60, [])] (by decide +kernel) (y := (82, [some (.ref a0), some (.int x1), some (.int x2)], [.int 60, .int x2, .ref a0], h)) rfl ?_
        obtain ⟨t15, hX, hK⟩ := ob_some hF
        have j16 : ∀ h : UH, HW (mkw c0 c1 c2 c3 c4 c5 c6 c7 c8 c9 c10 c11 c12 c13) d h → Ends (EX D) (u_at kl_23) (92, [some (.ref a0), some (.int x1), some (.int x2)], [.int t15, .ref a0], h) QQ := by
          intro h hW
          have hF := hK
          refine en_segs [(92, .iconst 0, []), (93, .iload_n 1, [])] (by decide +kernel) (y := (94, [some (.ref a0), some (.int x1), some (.int x2)], [.int x1, .int 0, .int t15, .ref a0], h)) rfl ?_
          obtain ⟨r17, hr17, hF⟩ := ob_some hF
          refine en_vv (r := []) (by decide +kernel : u_at kl_23 94 = some (.invokevirtual 48, [27, 3, 3])) hW ha0 rfl rfl (Nat.le_of_ble_eq_true rfl) (e_27 (D := D) (by omega) hW ha0 hr17) (fun h hW => ?_)
          have hW : HW (mkw c0 c1 c2 r17 c4 c5 c6 c7 c8 c9 c10 c11 c12 c13) d h := hW
          refine en_segs [(97, .iload_n 1, []), (98, .iconst 2, []), (99, .iadd, [])] (by decide +kernel) (y := (100, [some (.ref a0), some (.int x1), some (.int x2)], [.int (x1 + 2)], h)) rfl ?_
          obtain rfl := Option.some.inj hF
          exact en_ret (by decide +kernel : u_at kl_23 100 = some (.ireturn, [0])) rfl (hQ _ hW)
        have hF := hX
        refine en_ic_ne (by decide +kernel : u_at kl_23 82 = some (.if_icmp .ne 8, [90])) (fun b18 => ?_) (fun b18 => ?_)
        · replace hF := i_pos b18 hF
          refine en_segs [(85, .bipush 32, []), (87, .goto 5, [92])] (by decide +kernel) (y := (92, [some (.ref a0), some (.int x1), some (.int x2)], [.int 32, .ref a0], h)) rfl ?_
          obtain rfl := Option.some.inj hF
          exact j16 _ hW
        · replace hF := i_neg b18 hF
          refine en_segs [(90, .bipush 33, [])] (by decide +kernel) (y := (92, [some (.ref a0), some (.int x1), some (.int x2)], [.int 33, .ref a0], h)) rfl ?_
          obtain rfl := Option.some.inj hF
          exact j16 _ hW
      · replace hF := i_neg b14 hF
        exact (ih _ _ _ _ _ hF).2.2.2 _ _ rfl rfl rfl rfl  _ hW _ hQ
  · intro x1 x2 e1 e2 e3 e4 h hW QQ hQ
    subst e1 e2 e3 e4
    refine en_segs [(101, .aload_n 0, []), (102, .bipush 100, []), (104, .iload_n 2, []), (105, .sipush 255, []), (108, .iand, []), (109, .iadd, []), (110, .iconst 0, []), (111, .iload_n 1, [])] (by decide +kernel) (y := (112, [some (.ref a0), some (.int x1), some (.int x2)], [.int x1, .int 0, .int (100 + (x2 &&& 255)), .ref a0], h)) rfl ?_
    obtain ⟨r19, hr19, hF⟩ := ob_some hF
    refine en_vv (r := []) (by decide +kernel : u_at kl_23 112 = some (.invokevirtual 48, [27, 3, 3])) hW ha0 rfl rfl (Nat.le_of_ble_eq_true rfl) (e_27 (D := D) (by omega) hW ha0 hr19) (fun h hW => ?_)
    have hW : HW (mkw c0 c1 c2 r19 c4 c5 c6 c7 c8 c9 c10 c11 c12 c13) d h := hW
    refine en_segs [(115, .iload_n 1, []), (116, .iconst 1, []), (117, .iadd, [])] (by decide +kernel) (y := (118, [some (.ref a0), some (.int x1), some (.int x2)], [.int (x1 + 1)], h)) rfl ?_
    obtain rfl := Option.some.inj hF
    exact en_ret (by decide +kernel : u_at kl_23 118 = some (.ireturn, [0])) rfl (hQ _ hW)
def F_23 (c3 : Cl) (c11 : Cl) (a0 : Nat) (p1 : Int32) : Option (Int32 × Cl) :=
  ald (cA c11 0 (cR c3 0 a0)) 400 p1 >>= fun v2 =>
  if v2 < 48 then
  G_23 c3 c11 a0 0 [p1, v2] [] []
  else
  if 57 < v2 then
  G_23 c3 c11 a0 0 [p1, v2] [] []
  else
  F_24 c3 c11 a0 p1 >>= fun r5 =>
  some (r5.1, r5.2)
set_option maxRecDepth 100000 in
set_option maxHeartbeats 4000000 in
/-- HeadCounts$Reader.cutPiece -/
theorem e_23 {D : Nat} {c0 c1 c2 c3 c4 c5 c6 c7 c8 c9 c10 c11 c12 c13 : Cl} {d : Ad} {h : UH} {a0 : Nat} {p1 : Int32} {r : (Int32 × Cl)} (hD : 3 ≤ D) (hW : HW (mkw c0 c1 c2 c3 c4 c5 c6 c7 c8 c9 c10 c11 c12 c13) d h) (ha0 : aK d a0 = (0, 3, 0)) (hF : F_23 c3 c11 a0 p1 = some r) : ∃ q, EX D 23 [.ref a0, .int p1] h q ∧ q.1 = some (.int r.1) ∧ HW (mkw c0 c1 c2 r.2 c4 c5 c6 c7 c8 c9 c10 c11 c12 c13) d q.2 := by
  obtain ⟨D, rfl⟩ : ∃ E, D = E + 1 := ⟨D - 1, by omega⟩
  unfold F_23 at hF
  refine ex_in (kl := kl_23) (nL := 3) rfl (by decide +kernel) (Nat.le_of_ble_eq_true rfl) ?_
  obtain ⟨QQ, hQQ⟩ : ∃ QQ : UR → Prop, QQ = (fun q : UR => q.1 = some (.int r.1) ∧ HW (mkw c0 c1 c2 r.2 c4 c5 c6 c7 c8 c9 c10 c11 c12 c13) d q.2) := ⟨_, rfl⟩
  rw [← hQQ]
  have hQ : ∀ h' : UH, HW (mkw c0 c1 c2 r.2 c4 c5 c6 c7 c8 c9 c10 c11 c12 c13) d h' → QQ (some (.int r.1), h') := fun h' p => by rw [hQQ]; exact ⟨rfl, p⟩
  clear hQQ
  show Ends (EX D) (u_at kl_23) (0, [some (.ref a0), some (.int p1), none], [], h) QQ
  refine en_segs [(0, .aload_n 0, [])] (by decide +kernel) (y := (1, [some (.ref a0), some (.int p1), none], [.ref a0], h)) rfl ?_
  have k1 : aK d (cR c3 0 a0) = (0, 11, 0) := wf_tape hW ha0 (by decide) rfl
  refine en_get (by decide +kernel : u_at kl_23 1 = some (.getfield 21, [3, 0])) hW ha0 (by decide) rfl ?_
  refine en_segs [(4, .iload_n 1, [])] (by decide +kernel) (y := (5, [some (.ref a0), some (.int p1), none], [.int p1, .ref (aP d 11 0 (cR c3 0 a0))], h)) rfl ?_
  obtain ⟨v2, hv2, hF⟩ := ob_some hF
  refine en_bald (by decide +kernel : u_at kl_23 5 = some (.baload, [])) hW k1 rfl (by decide) hv2 ?_
  refine en_segs [(6, .istore_n 2, []), (7, .iload_n 2, []), (8, .bipush 48, [])] (by decide +kernel) (y := (10, [some (.ref a0), some (.int p1), some (.int v2)], [.int 48, .int v2], h)) rfl ?_
  refine en_ic_lt (by decide +kernel : u_at kl_23 10 = some (.if_icmp .lt 15, [25])) (fun b3 => ?_) (fun b3 => ?_)
  · replace hF := i_pos b3 hF
    exact (g_23 (D := D) hD ha0 _ _ _ _ _ hF).1 _ _ rfl rfl rfl rfl  _ hW _ hQ
  · replace hF := i_neg b3 hF
    refine en_segs [(13, .iload_n 2, []), (14, .bipush 57, [])] (by decide +kernel) (y := (16, [some (.ref a0), some (.int p1), some (.int v2)], [.int 57, .int v2], h)) rfl ?_
    refine en_ic_gt (by decide +kernel : u_at kl_23 16 = some (.if_icmp .gt 9, [25])) (fun b4 => ?_) (fun b4 => ?_)
    · replace hF := i_pos b4 hF
      exact (g_23 (D := D) hD ha0 _ _ _ _ _ hF).1 _ _ rfl rfl rfl rfl  _ hW _ hQ
    · replace hF := i_neg b4 hF
      refine en_segs [(19, .aload_n 0, []), (20, .iload_n 1, [])] (by decide +kernel) (y := (21, [some (.ref a0), some (.int p1), some (.int v2)], [.int p1, .ref a0], h)) rfl ?_
      obtain ⟨r5, hr5, hF⟩ := ob_some hF
      refine en_vi (r := []) (by decide +kernel : u_at kl_23 21 = some (.invokevirtual 52, [24, 1, 3])) hW ha0 rfl rfl (Nat.le_of_ble_eq_true rfl) (e_24 (D := D) (by omega) hW ha0 hr5) (fun h hW => ?_)
      have hW : HW (mkw c0 c1 c2 r5.2 c4 c5 c6 c7 c8 c9 c10 c11 c12 c13) d h := hW
      obtain rfl := Option.some.inj hF
      exact en_ret (by decide +kernel : u_at kl_23 24 = some (.ireturn, [0])) rfl (hQ _ hW)
def G_22 (c11 : Cl) (a0 : Nat) (lab : Nat) (xs : List Int32) (ys : List Int64) (zs : List Nat) (c3 : Cl) : Option Cl := match lab, xs, ys, zs with
  | 0, [x2, x3], [], [] =>
    if 400 ≤ x3 then
    G_22 c11 a0 1 [] [] [] c3
    else
    if (cI c3 1 a0) ≤ x2 then
    G_22 c11 a0 1 [] [] [] c3
    else
    ald (cA c11 0 (cR c3 0 a0)) 400 x2 >>= fun v9 =>
    ((if v9 = 32 then
    some (x2 + 1, c3)
    else
    F_23 c3 c11 a0 x2 >>= fun r13 =>
    some (r13.1, r13.2)) : Option (Int32 × Cl)) >>= fun (t10 : Int32 × Cl) =>
    G_22 c11 a0 0 [t10.1, x3 + 1] [] [] t10.2
  | 1, [], [], [] =>
    F_27 c3 a0 35 0 (cI c3 1 a0) >>= fun r14 =>
    some r14
  | _, _, _, _ => none
partial_fixpoint
set_option maxRecDepth 100000 in
set_option maxHeartbeats 4000000 in
theorem g_22 {D : Nat} (hD : 4 ≤ D + 1) {c0 c1 c2 c4 c5 c6 c7 c8 c9 c10 c11 c12 c13 : Cl} {d : Ad} {a0 : Nat} (ha0 : aK d a0 = (0, 3, 0)) : ∀ (lab : Nat) (xs : List Int32) (ys : List Int64) (zs : List Nat) (c3 : Cl) (r : Cl), G_22 c11 a0 lab xs ys zs c3 = some r →
    (∀ (x2 : Int32) (x3 : Int32), lab = 0 → xs = [x2, x3] → ys = [] → zs = [] → ∀ h : UH, HW (mkw c0 c1 c2 c3 c4 c5 c6 c7 c8 c9 c10 c11 c12 c13) d h → ∀ QQ : UR → Prop, (∀ h' : UH, HW (mkw c0 c1 c2 r c4 c5 c6 c7 c8 c9 c10 c11 c12 c13) d h' → QQ (none, h')) → Ends (EX D) (u_at kl_22) (32, [some (.ref a0), none, some (.int x2), some (.int x3)], [], h) QQ) ∧
    (∀ (_ : Unit), lab = 1 → xs = [] → ys = [] → zs = [] → ∀ h : UH, HW (mkw c0 c1 c2 c3 c4 c5 c6 c7 c8 c9 c10 c11 c12 c13) d h → ∀ QQ : UR → Prop, (∀ h' : UH, HW (mkw c0 c1 c2 r c4 c5 c6 c7 c8 c9 c10 c11 c12 c13) d h' → QQ (none, h')) → Ends (EX D) (u_at kl_22) (76, [some (.ref a0), none, none, none], [], h) QQ) := by
  refine G_22.partial_correctness _ _ (motive := fun lab xs ys zs c3 r =>
    (∀ (x2 : Int32) (x3 : Int32), lab = 0 → xs = [x2, x3] → ys = [] → zs = [] → ∀ h : UH, HW (mkw c0 c1 c2 c3 c4 c5 c6 c7 c8 c9 c10 c11 c12 c13) d h → ∀ QQ : UR → Prop, (∀ h' : UH, HW (mkw c0 c1 c2 r c4 c5 c6 c7 c8 c9 c10 c11 c12 c13) d h' → QQ (none, h')) → Ends (EX D) (u_at kl_22) (32, [some (.ref a0), none, some (.int x2), some (.int x3)], [], h) QQ) ∧
    (∀ (_ : Unit), lab = 1 → xs = [] → ys = [] → zs = [] → ∀ h : UH, HW (mkw c0 c1 c2 c3 c4 c5 c6 c7 c8 c9 c10 c11 c12 c13) d h → ∀ QQ : UR → Prop, (∀ h' : UH, HW (mkw c0 c1 c2 r c4 c5 c6 c7 c8 c9 c10 c11 c12 c13) d h' → QQ (none, h')) → Ends (EX D) (u_at kl_22) (76, [some (.ref a0), none, none, none], [], h) QQ)) ?_
  intro G ih lab xs ys zs c3 r hF
  refine ⟨?_, ?_⟩
  · intro x2 x3 e1 e2 e3 e4 h hW QQ hQ
    subst e1 e2 e3 e4
    refine en_segs [(32, .iload_n 3, []), (33, .sipush 400, [])] (by decide +kernel) (y := (36, [some (.ref a0), none, some (.int x2), some (.int x3)], [.int 400, .int x3], h)) rfl ?_
    refine en_ic_ge (by decide +kernel : u_at kl_22 36 = some (.if_icmp .ge 40, [76])) (fun b6 => ?_) (fun b6 => ?_)
    · replace hF := i_pos b6 hF
      refine en_fg (fg_k (fg_k (fg_d (fg_d fg_0)))) ?_
      exact (ih _ _ _ _ _ _ hF).2 () rfl rfl rfl rfl  _ hW _ hQ
    · replace hF := i_neg b6 hF
      refine en_segs [(39, .iload_n 2, []), (40, .aload_n 0, [])] (by decide +kernel) (y := (41, [some (.ref a0), none, some (.int x2), some (.int x3)], [.ref a0, .int x2], h)) rfl ?_
      refine en_get (by decide +kernel : u_at kl_22 41 = some (.getfield 31, [3, 1])) hW ha0 (by decide) rfl ?_
      refine en_ic_ge (by decide +kernel : u_at kl_22 44 = some (.if_icmp .ge 32, [76])) (fun b7 => ?_) (fun b7 => ?_)
      · replace hF := i_pos b7 hF
        refine en_fg (fg_k (fg_k (fg_d (fg_d fg_0)))) ?_
        exact (ih _ _ _ _ _ _ hF).2 () rfl rfl rfl rfl  _ hW _ hQ
      · replace hF := i_neg b7 hF
        refine en_segs [(47, .aload_n 0, [])] (by decide +kernel) (y := (48, [some (.ref a0), none, some (.int x2), some (.int x3)], [.ref a0], h)) rfl ?_
        have k8 : aK d (cR c3 0 a0) = (0, 11, 0) := wf_tape hW ha0 (by decide) rfl
        refine en_get (by decide +kernel : u_at kl_22 48 = some (.getfield 21, [3, 0])) hW ha0 (by decide) rfl ?_
        refine en_segs [(51, .iload_n 2, [])] (by decide +kernel) (y := (52, [some (.ref a0), none, some (.int x2), some (.int x3)], [.int x2, .ref (aP d 11 0 (cR c3 0 a0))], h)) rfl ?_
        obtain ⟨v9, hv9, hF⟩ := ob_some hF
        refine en_bald (by decide +kernel : u_at kl_22 52 = some (.baload, [])) hW k8 rfl (by decide) hv9 ?_
        refine en_segs [(53, .bipush 32, [])] (by decide +kernel) (y := (55, [some (.ref a0), none, some (.int x2), some (.int x3)], [.int 32, .int v9], h)) rfl ?_
        obtain ⟨t10, hX, hK⟩ := ob_some hF
        have j11 : ∀ h : UH, HW (mkw c0 c1 c2 t10.2 c4 c5 c6 c7 c8 c9 c10 c11 c12 c13) d h → Ends (EX D) (u_at kl_22) (69, [some (.ref a0), none, some (.int x2), some (.int x3)], [.int t10.1], h) QQ := by
          intro h hW
          have hF := hK
          refine en_segs [(69, .istore_n 2, []), (70, .iinc 3 1, []), (73, .goto (-41), [32])] (by decide +kernel) (y := (32, [some (.ref a0), none, some (.int t10.1), some (.int (x3 + 1))], [], h)) rfl ?_
          exact (ih _ _ _ _ _ _ hF).1 _ _ rfl rfl rfl rfl  _ hW _ hQ
        have hF := hX
        refine en_ic_ne (by decide +kernel : u_at kl_22 55 = some (.if_icmp .ne 9, [64])) (fun b12 => ?_) (fun b12 => ?_)
        · replace hF := i_pos b12 hF
          refine en_segs [(58, .iload_n 2, []), (59, .iconst 1, []), (60, .iadd, []), (61, .goto 8, [69])] (by decide +kernel) (y := (69, [some (.ref a0), none, some (.int x2), some (.int x3)], [.int (x2 + 1)], h)) rfl ?_
          obtain rfl := Option.some.inj hF
          exact j11 _ hW
        · replace hF := i_neg b12 hF
          refine en_segs [(64, .aload_n 0, []), (65, .iload_n 2, [])] (by decide +kernel) (y := (66, [some (.ref a0), none, some (.int x2), some (.int x3)], [.int x2, .ref a0], h)) rfl ?_
          obtain ⟨r13, hr13, hF⟩ := ob_some hF
          refine en_vi (r := []) (by decide +kernel : u_at kl_22 66 = some (.invokevirtual 44, [23, 1, 3])) hW ha0 rfl rfl (Nat.le_of_ble_eq_true rfl) (e_23 (D := D) (by omega) hW ha0 hr13) (fun h hW => ?_)
          have hW : HW (mkw c0 c1 c2 r13.2 c4 c5 c6 c7 c8 c9 c10 c11 c12 c13) d h := hW
          obtain rfl := Option.some.inj hF
          exact j11 _ hW
  · intro _ e1 e2 e3 e4 h hW QQ hQ
    subst e1 e2 e3 e4
    refine en_segs [(76, .aload_n 0, []), (77, .bipush 35, []), (79, .iconst 0, []), (80, .aload_n 0, [])] (by decide +kernel) (y := (81, [some (.ref a0), none, none, none], [.ref a0, .int 0, .int 35, .ref a0], h)) rfl ?_
    refine en_get (by decide +kernel : u_at kl_22 81 = some (.getfield 31, [3, 1])) hW ha0 (by decide) rfl ?_
    obtain ⟨r14, hr14, hF⟩ := ob_some hF
    refine en_vv (r := []) (by decide +kernel : u_at kl_22 84 = some (.invokevirtual 48, [27, 3, 3])) hW ha0 rfl rfl (Nat.le_of_ble_eq_true rfl) (e_27 (D := D) (by omega) hW ha0 hr14) (fun h hW => ?_)
    have hW : HW (mkw c0 c1 c2 r14 c4 c5 c6 c7 c8 c9 c10 c11 c12 c13) d h := hW
    obtain rfl := Option.some.inj hF
    exact en_ret (by decide +kernel : u_at kl_22 87 = some (.return_, [])) rfl (hQ _ hW)
def F_22 (c3 : Cl) (c11 : Cl) (a0 : Nat) (p1 : Int32) : Option Cl :=
  some (sI c3 1 a0 (imin p1 400)) >>= fun c3_2 =>
  some (sI c3_2 5 a0 0) >>= fun c3_3 =>
  some (sI c3_3 6 a0 0) >>= fun c3_4 =>
  some (sI c3_4 7 a0 0) >>= fun c3_5 =>
  G_22 c11 a0 0 [0, 0] [] [] c3_5
set_option maxRecDepth 100000 in
set_option maxHeartbeats 4000000 in
/-- HeadCounts$Reader.begin -/
theorem e_22 {D : Nat} {c0 c1 c2 c3 c4 c5 c6 c7 c8 c9 c10 c11 c12 c13 : Cl} {d : Ad} {h : UH} {a0 : Nat} {p1 : Int32} {r : Cl} (hD : 4 ≤ D) (hW : HW (mkw c0 c1 c2 c3 c4 c5 c6 c7 c8 c9 c10 c11 c12 c13) d h) (ha0 : aK d a0 = (0, 3, 0)) (hF : F_22 c3 c11 a0 p1 = some r) : ∃ q, EX D 22 [.ref a0, .int p1] h q ∧ q.1 = none ∧ HW (mkw c0 c1 c2 r c4 c5 c6 c7 c8 c9 c10 c11 c12 c13) d q.2 := by
  obtain ⟨D, rfl⟩ : ∃ E, D = E + 1 := ⟨D - 1, by omega⟩
  unfold F_22 at hF
  refine ex_in (kl := kl_22) (nL := 4) rfl (by decide +kernel) (Nat.le_of_ble_eq_true rfl) ?_
  obtain ⟨QQ, hQQ⟩ : ∃ QQ : UR → Prop, QQ = (fun q : UR => q.1 = none ∧ HW (mkw c0 c1 c2 r c4 c5 c6 c7 c8 c9 c10 c11 c12 c13) d q.2) := ⟨_, rfl⟩
  rw [← hQQ]
  have hQ : ∀ h' : UH, HW (mkw c0 c1 c2 r c4 c5 c6 c7 c8 c9 c10 c11 c12 c13) d h' → QQ (none, h') := fun h' p => by rw [hQQ]; exact ⟨rfl, p⟩
  clear hQQ
  show Ends (EX D) (u_at kl_22) (0, [some (.ref a0), some (.int p1), none, none], [], h) QQ
  refine en_segs [(0, .aload_n 0, []), (1, .iload_n 1, []), (2, .aload_n 0, [])] (by decide +kernel) (y := (3, [some (.ref a0), some (.int p1), none, none], [.ref a0, .int p1, .ref a0], h)) rfl ?_
  have k1 : aK d (cR c3 0 a0) = (0, 11, 0) := wf_tape hW ha0 (by decide) rfl
  refine en_get (by decide +kernel : u_at kl_22 3 = some (.getfield 21, [3, 0])) hW ha0 (by decide) rfl ?_
  refine en_len (by decide +kernel : u_at kl_22 6 = some (.arraylength, [])) hW k1 rfl (by decide) (by decide) rfl ?_
  refine en_si (r := [.ref a0]) (by decide +kernel : u_at kl_22 7 = some (.invokestatic 25, [302, 2])) rfl rfl (Nat.le_of_ble_eq_true rfl) (e_imin (D := D) (by omega)) (fun h' q => ?_)
  subst q
  obtain ⟨c3_2, hc3_2, hF⟩ := ob_some hF
  refine en_putI (by decide +kernel : u_at kl_22 10 = some (.putfield 31, [3, 1, 0])) hW ha0 rfl (by decide) rfl (fun h hW => ?_)
  have hW : HW (mkw c0 c1 c2 c3_2 c4 c5 c6 c7 c8 c9 c10 c11 c12 c13) d h := by rw [← Option.some.inj hc3_2]; exact hW
  refine en_segs [(13, .aload_n 0, []), (14, .iconst 0, [])] (by decide +kernel) (y := (15, [some (.ref a0), some (.int p1), none, none], [.int 0, .ref a0], h)) rfl ?_
  obtain ⟨c3_3, hc3_3, hF⟩ := ob_some hF
  refine en_putI (by decide +kernel : u_at kl_22 15 = some (.putfield 35, [3, 5, 0])) hW ha0 rfl (by decide) rfl (fun h hW => ?_)
  have hW : HW (mkw c0 c1 c2 c3_3 c4 c5 c6 c7 c8 c9 c10 c11 c12 c13) d h := by rw [← Option.some.inj hc3_3]; exact hW
  refine en_segs [(18, .aload_n 0, []), (19, .iconst 0, [])] (by decide +kernel) (y := (20, [some (.ref a0), some (.int p1), none, none], [.int 0, .ref a0], h)) rfl ?_
  obtain ⟨c3_4, hc3_4, hF⟩ := ob_some hF
  refine en_putI (by decide +kernel : u_at kl_22 20 = some (.putfield 38, [3, 6, 0])) hW ha0 rfl (by decide) rfl (fun h hW => ?_)
  have hW : HW (mkw c0 c1 c2 c3_4 c4 c5 c6 c7 c8 c9 c10 c11 c12 c13) d h := by rw [← Option.some.inj hc3_4]; exact hW
  refine en_segs [(23, .aload_n 0, []), (24, .iconst 0, [])] (by decide +kernel) (y := (25, [some (.ref a0), some (.int p1), none, none], [.int 0, .ref a0], h)) rfl ?_
  obtain ⟨c3_5, hc3_5, hF⟩ := ob_some hF
  refine en_putI (by decide +kernel : u_at kl_22 25 = some (.putfield 41, [3, 7, 0])) hW ha0 rfl (by decide) rfl (fun h hW => ?_)
  have hW : HW (mkw c0 c1 c2 c3_5 c4 c5 c6 c7 c8 c9 c10 c11 c12 c13) d h := by rw [← Option.some.inj hc3_5]; exact hW
  refine en_segs [(28, .iconst 0, []), (29, .istore_n 2, []), (30, .iconst 0, []), (31, .istore_n 3, [])] (by decide +kernel) (y := (32, [some (.ref a0), some (.int p1), some (.int 0), some (.int 0)], [], h)) rfl ?_
  refine en_fg (fg_k (fg_d (fg_k (fg_k fg_0)))) ?_
  exact (g_22 (D := D) hD ha0 _ _ _ _ _ _ hF).1 _ _ rfl rfl rfl rfl  _ hW _ hQ
def F_29 (c3 : Cl) (a0 : Nat) : Option Int32 :=
  ald (cA c3 2 a0) 401 (cI c3 6 a0) >>= fun v1 =>
  some v1
set_option maxRecDepth 100000 in
set_option maxHeartbeats 4000000 in
/-- HeadCounts$Reader.kind -/
theorem e_29 {D : Nat} {c0 c1 c2 c3 c4 c5 c6 c7 c8 c9 c10 c11 c12 c13 : Cl} {d : Ad} {h : UH} {a0 : Nat} {r : Int32} (hD : 1 ≤ D) (hW : HW (mkw c0 c1 c2 c3 c4 c5 c6 c7 c8 c9 c10 c11 c12 c13) d h) (ha0 : aK d a0 = (0, 3, 0)) (hF : F_29 c3 a0 = some r) : ∃ q, EX D 29 [.ref a0] h q ∧ q.1 = some (.int r) ∧ h = q.2 := by
  obtain ⟨D, rfl⟩ : ∃ E, D = E + 1 := ⟨D - 1, by omega⟩
  unfold F_29 at hF
  refine ex_in (kl := kl_29) (nL := 1) rfl (by decide +kernel) (Nat.le_of_ble_eq_true rfl) ?_
  obtain ⟨QQ, hQQ⟩ : ∃ QQ : UR → Prop, QQ = (fun q : UR => q.1 = some (.int r) ∧ h = q.2) := ⟨_, rfl⟩
  rw [← hQQ]
  have hQ : QQ (some (.int r), h) := by rw [hQQ]; exact ⟨rfl, rfl⟩
  clear hQQ
  show Ends (EX D) (u_at kl_29) (0, [some (.ref a0)], [], h) QQ
  refine en_segs [(0, .aload_n 0, [])] (by decide +kernel) (y := (1, [some (.ref a0)], [.ref a0], h)) rfl ?_
  refine en_get (by decide +kernel : u_at kl_29 1 = some (.getfield 9, [3, 2])) hW ha0 (by decide) rfl ?_
  refine en_segs [(4, .aload_n 0, [])] (by decide +kernel) (y := (5, [some (.ref a0)], [.ref a0, .ref (aP d 3 2 a0)], h)) rfl ?_
  refine en_get (by decide +kernel : u_at kl_29 5 = some (.getfield 38, [3, 6])) hW ha0 (by decide) rfl ?_
  obtain ⟨v1, hv1, hF⟩ := ob_some hF
  refine en_iald (by decide +kernel : u_at kl_29 8 = some (.iaload, [])) hW ha0 rfl (by decide) hv1 ?_
  obtain rfl := Option.some.inj hF
  exact en_ret (by decide +kernel : u_at kl_29 9 = some (.ireturn, [0])) rfl (hQ)
def F_28 (c3 : Cl) (a0 : Nat) (p1 : Int32) : Option Cl :=
  ((if (cI c3 7 a0) = 0 then
  ald (cA c3 4 a0) 401 (cI c3 6 a0) >>= fun v4 =>
  some (sI c3 7 a0 ((1 + (8 * v4)) + p1)) >>= fun c3_5 =>
  some c3_5
  else
  some c3) : Option (Cl)) >>= fun (t1 : Cl) =>
  some t1
set_option maxRecDepth 100000 in
set_option maxHeartbeats 4000000 in
/-- HeadCounts$Reader.refuse -/
theorem e_28 {D : Nat} {c0 c1 c2 c3 c4 c5 c6 c7 c8 c9 c10 c11 c12 c13 : Cl} {d : Ad} {h : UH} {a0 : Nat} {p1 : Int32} {r : Cl} (hD : 1 ≤ D) (hW : HW (mkw c0 c1 c2 c3 c4 c5 c6 c7 c8 c9 c10 c11 c12 c13) d h) (ha0 : aK d a0 = (0, 3, 0)) (hF : F_28 c3 a0 p1 = some r) : ∃ q, EX D 28 [.ref a0, .int p1] h q ∧ q.1 = none ∧ HW (mkw c0 c1 c2 r c4 c5 c6 c7 c8 c9 c10 c11 c12 c13) d q.2 := by
  obtain ⟨D, rfl⟩ : ∃ E, D = E + 1 := ⟨D - 1, by omega⟩
  unfold F_28 at hF
  refine ex_in (kl := kl_28) (nL := 2) rfl (by decide +kernel) (Nat.le_of_ble_eq_true rfl) ?_
  obtain ⟨QQ, hQQ⟩ : ∃ QQ : UR → Prop, QQ = (fun q : UR => q.1 = none ∧ HW (mkw c0 c1 c2 r c4 c5 c6 c7 c8 c9 c10 c11 c12 c13) d q.2) := ⟨_, rfl⟩
  rw [← hQQ]
  have hQ : ∀ h' : UH, HW (mkw c0 c1 c2 r c4 c5 c6 c7 c8 c9 c10 c11 c12 c13) d h' → QQ (none, h') := fun h' p => by rw [hQQ]; exact ⟨rfl, p⟩
  clear hQQ
  show Ends (EX D) (u_at kl_28) (0, [some (.ref a0), some (.int p1)], [], h) QQ
  refine en_segs [(0, .aload_n 0, [])] (by decide +kernel) (y := (1, [some (.ref a0), some (.int p1)], [.ref a0], h)) rfl ?_
  refine en_get (by decide +kernel : u_at kl_28 1 = some (.getfield 41, [3, 7])) hW ha0 (by decide) rfl ?_
  obtain ⟨t1, hX, hK⟩ := ob_some hF
  have j2 : ∀ h : UH, HW (mkw c0 c1 c2 t1 c4 c5 c6 c7 c8 c9 c10 c11 c12 c13) d h → Ends (EX D) (u_at kl_28) (27, [some (.ref a0), some (.int p1)], [], h) QQ := by
    intro h hW
    have hF := hK
    obtain rfl := Option.some.inj hF
    exact en_ret (by decide +kernel : u_at kl_28 27 = some (.return_, [])) rfl (hQ _ hW)
  have hF := hX
  refine en_if_ne (by decide +kernel : u_at kl_28 4 = some (.ifCond .ne 23, [27])) (fun b3 => ?_) (fun b3 => ?_)
  · replace hF := i_pos b3 hF
    refine en_segs [(7, .aload_n 0, []), (8, .iconst 1, []), (9, .bipush 8, []), (11, .aload_n 0, [])] (by decide +kernel) (y := (12, [some (.ref a0), some (.int p1)], [.ref a0, .int 8, .int 1, .ref a0], h)) rfl ?_
    refine en_get (by decide +kernel : u_at kl_28 12 = some (.getfield 18, [3, 4])) hW ha0 (by decide) rfl ?_
    refine en_segs [(15, .aload_n 0, [])] (by decide +kernel) (y := (16, [some (.ref a0), some (.int p1)], [.ref a0, .ref (aP d 3 4 a0), .int 8, .int 1, .ref a0], h)) rfl ?_
    refine en_get (by decide +kernel : u_at kl_28 16 = some (.getfield 38, [3, 6])) hW ha0 (by decide) rfl ?_
    obtain ⟨v4, hv4, hF⟩ := ob_some hF
    refine en_iald (by decide +kernel : u_at kl_28 19 = some (.iaload, [])) hW ha0 rfl (by decide) hv4 ?_
    refine en_segs [(20, .imul, []), (21, .iadd, []), (22, .iload_n 1, []), (23, .iadd, [])] (by decide +kernel) (y := (24, [some (.ref a0), some (.int p1)], [.int ((1 + (8 * v4)) + p1), .ref a0], h)) rfl ?_
    obtain ⟨c3_5, hc3_5, hF⟩ := ob_some hF
    refine en_putI (by decide +kernel : u_at kl_28 24 = some (.putfield 41, [3, 7, 0])) hW ha0 rfl (by decide) rfl (fun h hW => ?_)
    have hW : HW (mkw c0 c1 c2 c3_5 c4 c5 c6 c7 c8 c9 c10 c11 c12 c13) d h := by rw [← Option.some.inj hc3_5]; exact hW
    obtain rfl := Option.some.inj hF
    exact j2 _ hW
  · replace hF := i_neg b3 hF
    obtain rfl := Option.some.inj hF
    exact j2 _ hW
def F_17 (c1 : Cl) (c2 : Cl) (a0 : Nat) (a1 : Nat) (p2 : Int32) : Option Int32 :=
  if p2 = 0 then
  ((if 6 ≤ (cI c1 2 a1) then
  some 0
  else
  some 1) : Option (Int32)) >>= fun (t2 : Int32) =>
  zb t2 >>= fun z4 => some z4
  else
  if p2 = 13 then
  ((if 10 ≤ (cI c1 1 a1) then
  some 0
  else
  some 1) : Option (Int32)) >>= fun (t7 : Int32) =>
  zb t7 >>= fun z9 => some z9
  else
  if p2 = 16 then
  ((if 6 ≤ (cI c1 3 a1) then
  some 0
  else
  some 1) : Option (Int32)) >>= fun (t12 : Int32) =>
  zb t12 >>= fun z14 => some z14
  else
  if p2 = 17 then
  ((if (cI c2 1 a0) = 0 then
  some 1
  else
  some 0) : Option (Int32)) >>= fun (t17 : Int32) =>
  zb t17 >>= fun z19 => some z19
  else
  some 1
set_option maxRecDepth 100000 in
set_option maxHeartbeats 4000000 in
/-- HeadCounts$HouseReader.hasPlace -/
theorem e_17 {D : Nat} {c0 c1 c2 c3 c4 c5 c6 c7 c8 c9 c10 c11 c12 c13 : Cl} {d : Ad} {h : UH} {a0 : Nat} {a1 : Nat} {p2 : Int32} {r : Int32} (hD : 1 ≤ D) (hW : HW (mkw c0 c1 c2 c3 c4 c5 c6 c7 c8 c9 c10 c11 c12 c13) d h) (ha0 : aK d a0 = (0, 2, 0)) (ha1 : aK d a1 = (0, 1, 0)) (hF : F_17 c1 c2 a0 a1 p2 = some r) : ∃ q, EX D 17 [.ref a0, .ref a1, .int p2] h q ∧ q.1 = some (.int r) ∧ h = q.2 := by
  obtain ⟨D, rfl⟩ : ∃ E, D = E + 1 := ⟨D - 1, by omega⟩
  unfold F_17 at hF
  refine ex_in (kl := kl_17) (nL := 3) rfl (by decide +kernel) (Nat.le_of_ble_eq_true rfl) ?_
  obtain ⟨QQ, hQQ⟩ : ∃ QQ : UR → Prop, QQ = (fun q : UR => q.1 = some (.int r) ∧ h = q.2) := ⟨_, rfl⟩
  rw [← hQQ]
  have hQ : QQ (some (.int r), h) := by rw [hQQ]; exact ⟨rfl, rfl⟩
  clear hQQ
  show Ends (EX D) (u_at kl_17) (0, [some (.ref a0), some (.ref a1), some (.int p2)], [], h) QQ
  refine en_segs [(0, .iload_n 2, [])] (by decide +kernel) (y := (1, [some (.ref a0), some (.ref a1), some (.int p2)], [.int p2], h)) rfl ?_
  by_cases b1 : p2 = 0
  · replace hF := i_pos b1 hF
    refine en_ls (by decide +kernel : u_at kl_17 1 = some (.lookupswitch 101 #[(0, 58), (13, 43), (16, 73), (17, 88)], [])) (u := 59) (by rw [b1]; decide) ?_
    refine en_segs [(59, .aload_n 1, [])] (by decide +kernel) (y := (60, [some (.ref a0), some (.ref a1), some (.int p2)], [.ref a1], h)) rfl ?_
    refine en_get (by decide +kernel : u_at kl_17 60 = some (.getfield 60, [1, 2])) hW ha1 (by decide) rfl ?_
    refine en_segs [(63, .bipush 6, [])] (by decide +kernel) (y := (65, [some (.ref a0), some (.ref a1), some (.int p2)], [.int 6, .int (cI c1 2 a1)], h)) rfl ?_
    obtain ⟨t2, hX, hK⟩ := ob_some hF
    have j3 : Ends (EX D) (u_at kl_17) (73, [some (.ref a0), some (.ref a1), some (.int p2)], [.int t2], h) QQ := by
      have hF := hK
      obtain ⟨z4, hz4, hF⟩ := ob_some hF
      obtain rfl := Option.some.inj hF
      exact en_retZ (by decide +kernel : u_at kl_17 73 = some (.ireturn, [1])) hz4 (hQ)
    have hF := hX
    refine en_ic_ge (by decide +kernel : u_at kl_17 65 = some (.if_icmp .ge 7, [72])) (fun b5 => ?_) (fun b5 => ?_)
    · replace hF := i_pos b5 hF
      refine en_segs [(72, .iconst 0, [])] (by decide +kernel) (y := (73, [some (.ref a0), some (.ref a1), some (.int p2)], [.int 0], h)) rfl ?_
      obtain rfl := Option.some.inj hF
      exact j3
    · replace hF := i_neg b5 hF
      refine en_segs [(68, .iconst 1, []), (69, .goto 4, [73])] (by decide +kernel) (y := (73, [some (.ref a0), some (.ref a1), some (.int p2)], [.int 1], h)) rfl ?_
      obtain rfl := Option.some.inj hF
      exact j3
  · replace hF := i_neg b1 hF
    by_cases b6 : p2 = 13
    · replace hF := i_pos b6 hF
      refine en_ls (by decide +kernel : u_at kl_17 1 = some (.lookupswitch 101 #[(0, 58), (13, 43), (16, 73), (17, 88)], [])) (u := 44) (by rw [b6]; decide) ?_
      refine en_segs [(44, .aload_n 1, [])] (by decide +kernel) (y := (45, [some (.ref a0), some (.ref a1), some (.int p2)], [.ref a1], h)) rfl ?_
      refine en_get (by decide +kernel : u_at kl_17 45 = some (.getfield 57, [1, 1])) hW ha1 (by decide) rfl ?_
      refine en_segs [(48, .bipush 10, [])] (by decide +kernel) (y := (50, [some (.ref a0), some (.ref a1), some (.int p2)], [.int 10, .int (cI c1 1 a1)], h)) rfl ?_
      obtain ⟨t7, hX, hK⟩ := ob_some hF
      have j8 : Ends (EX D) (u_at kl_17) (58, [some (.ref a0), some (.ref a1), some (.int p2)], [.int t7], h) QQ := by
        have hF := hK
        obtain ⟨z9, hz9, hF⟩ := ob_some hF
        obtain rfl := Option.some.inj hF
        exact en_retZ (by decide +kernel : u_at kl_17 58 = some (.ireturn, [1])) hz9 (hQ)
      have hF := hX
      refine en_ic_ge (by decide +kernel : u_at kl_17 50 = some (.if_icmp .ge 7, [57])) (fun b10 => ?_) (fun b10 => ?_)
      · replace hF := i_pos b10 hF
        refine en_segs [(57, .iconst 0, [])] (by decide +kernel) (y := (58, [some (.ref a0), some (.ref a1), some (.int p2)], [.int 0], h)) rfl ?_
        obtain rfl := Option.some.inj hF
        exact j8
      · replace hF := i_neg b10 hF
        refine en_segs [(53, .iconst 1, []), (54, .goto 4, [58])] (by decide +kernel) (y := (58, [some (.ref a0), some (.ref a1), some (.int p2)], [.int 1], h)) rfl ?_
        obtain rfl := Option.some.inj hF
        exact j8
    · replace hF := i_neg b6 hF
      by_cases b11 : p2 = 16
      · replace hF := i_pos b11 hF
        refine en_ls (by decide +kernel : u_at kl_17 1 = some (.lookupswitch 101 #[(0, 58), (13, 43), (16, 73), (17, 88)], [])) (u := 74) (by rw [b11]; decide) ?_
        refine en_segs [(74, .aload_n 1, [])] (by decide +kernel) (y := (75, [some (.ref a0), some (.ref a1), some (.int p2)], [.ref a1], h)) rfl ?_
        refine en_get (by decide +kernel : u_at kl_17 75 = some (.getfield 63, [1, 3])) hW ha1 (by decide) rfl ?_
        refine en_segs [(78, .bipush 6, [])] (by decide +kernel) (y := (80, [some (.ref a0), some (.ref a1), some (.int p2)], [.int 6, .int (cI c1 3 a1)], h)) rfl ?_
        obtain ⟨t12, hX, hK⟩ := ob_some hF
        have j13 : Ends (EX D) (u_at kl_17) (88, [some (.ref a0), some (.ref a1), some (.int p2)], [.int t12], h) QQ := by
          have hF := hK
          obtain ⟨z14, hz14, hF⟩ := ob_some hF
          obtain rfl := Option.some.inj hF
          exact en_retZ (by decide +kernel : u_at kl_17 88 = some (.ireturn, [1])) hz14 (hQ)
        have hF := hX
        refine en_ic_ge (by decide +kernel : u_at kl_17 80 = some (.if_icmp .ge 7, [87])) (fun b15 => ?_) (fun b15 => ?_)
        · replace hF := i_pos b15 hF
          refine en_segs [(87, .iconst 0, [])] (by decide +kernel) (y := (88, [some (.ref a0), some (.ref a1), some (.int p2)], [.int 0], h)) rfl ?_
          obtain rfl := Option.some.inj hF
          exact j13
        · replace hF := i_neg b15 hF
          refine en_segs [(83, .iconst 1, []), (84, .goto 4, [88])] (by decide +kernel) (y := (88, [some (.ref a0), some (.ref a1), some (.int p2)], [.int 1], h)) rfl ?_
          obtain rfl := Option.some.inj hF
          exact j13
      · replace hF := i_neg b11 hF
        by_cases b16 : p2 = 17
        · replace hF := i_pos b16 hF
          refine en_ls (by decide +kernel : u_at kl_17 1 = some (.lookupswitch 101 #[(0, 58), (13, 43), (16, 73), (17, 88)], [])) (u := 89) (by rw [b16]; decide) ?_
          refine en_segs [(89, .aload_n 0, [])] (by decide +kernel) (y := (90, [some (.ref a0), some (.ref a1), some (.int p2)], [.ref a0], h)) rfl ?_
          refine en_get (by decide +kernel : u_at kl_17 90 = some (.getfield 24, [2, 1])) hW ha0 (by decide) rfl ?_
          obtain ⟨t17, hX, hK⟩ := ob_some hF
          have j18 : Ends (EX D) (u_at kl_17) (101, [some (.ref a0), some (.ref a1), some (.int p2)], [.int t17], h) QQ := by
            have hF := hK
            obtain ⟨z19, hz19, hF⟩ := ob_some hF
            obtain rfl := Option.some.inj hF
            exact en_retZ (by decide +kernel : u_at kl_17 101 = some (.ireturn, [1])) hz19 (hQ)
          have hF := hX
          refine en_if_ne (by decide +kernel : u_at kl_17 93 = some (.ifCond .ne 7, [100])) (fun b20 => ?_) (fun b20 => ?_)
          · replace hF := i_pos b20 hF
            refine en_segs [(96, .iconst 1, []), (97, .goto 4, [101])] (by decide +kernel) (y := (101, [some (.ref a0), some (.ref a1), some (.int p2)], [.int 1], h)) rfl ?_
            obtain rfl := Option.some.inj hF
            exact j18
          · replace hF := i_neg b20 hF
            refine en_segs [(100, .iconst 0, [])] (by decide +kernel) (y := (101, [some (.ref a0), some (.ref a1), some (.int p2)], [.int 0], h)) rfl ?_
            obtain rfl := Option.some.inj hF
            exact j18
        · replace hF := i_neg b16 hF
          have wb1 : (p2 : Int32).toInt ≠ 0 := ti_ne b1
          have wb6 : (p2 : Int32).toInt ≠ 13 := ti_ne b6
          have wb11 : (p2 : Int32).toInt ≠ 16 := ti_ne b11
          have wb16 : (p2 : Int32).toInt ≠ 17 := ti_ne b16
          refine en_ls (by decide +kernel : u_at kl_17 1 = some (.lookupswitch 101 #[(0, 58), (13, 43), (16, 73), (17, 88)], [])) (u := 102) (by simp [Op.lookupswitch.offset, Ne.symm wb1, Ne.symm wb6, Ne.symm wb11, Ne.symm wb16]) ?_
          refine en_segs [(102, .iconst 1, [])] (by decide +kernel) (y := (103, [some (.ref a0), some (.ref a1), some (.int p2)], [.int 1], h)) rfl ?_
          obtain rfl := Option.some.inj hF
          exact en_ret (by decide +kernel : u_at kl_17 103 = some (.ireturn, [1])) rfl (hQ)
def F_31 (c3 : Cl) (a0 : Nat) : Option Cl :=
  ((if ((cI c3 5 a0) - 1) ≤ (cI c3 6 a0) then
  some c3
  else
  some (sI c3 6 a0 ((cI c3 6 a0) + 1)) >>= fun c3_4 =>
  some c3_4) : Option (Cl)) >>= fun (t1 : Cl) =>
  some t1
set_option maxRecDepth 100000 in
set_option maxHeartbeats 4000000 in
/-- HeadCounts$Reader.skip -/
theorem e_31 {D : Nat} {c0 c1 c2 c3 c4 c5 c6 c7 c8 c9 c10 c11 c12 c13 : Cl} {d : Ad} {h : UH} {a0 : Nat} {r : Cl} (hD : 1 ≤ D) (hW : HW (mkw c0 c1 c2 c3 c4 c5 c6 c7 c8 c9 c10 c11 c12 c13) d h) (ha0 : aK d a0 = (0, 3, 0)) (hF : F_31 c3 a0 = some r) : ∃ q, EX D 31 [.ref a0] h q ∧ q.1 = none ∧ HW (mkw c0 c1 c2 r c4 c5 c6 c7 c8 c9 c10 c11 c12 c13) d q.2 := by
  obtain ⟨D, rfl⟩ : ∃ E, D = E + 1 := ⟨D - 1, by omega⟩
  unfold F_31 at hF
  refine ex_in (kl := kl_31) (nL := 1) rfl (by decide +kernel) (Nat.le_of_ble_eq_true rfl) ?_
  obtain ⟨QQ, hQQ⟩ : ∃ QQ : UR → Prop, QQ = (fun q : UR => q.1 = none ∧ HW (mkw c0 c1 c2 r c4 c5 c6 c7 c8 c9 c10 c11 c12 c13) d q.2) := ⟨_, rfl⟩
  rw [← hQQ]
  have hQ : ∀ h' : UH, HW (mkw c0 c1 c2 r c4 c5 c6 c7 c8 c9 c10 c11 c12 c13) d h' → QQ (none, h') := fun h' p => by rw [hQQ]; exact ⟨rfl, p⟩
  clear hQQ
  show Ends (EX D) (u_at kl_31) (0, [some (.ref a0)], [], h) QQ
  refine en_segs [(0, .aload_n 0, [])] (by decide +kernel) (y := (1, [some (.ref a0)], [.ref a0], h)) rfl ?_
  refine en_get (by decide +kernel : u_at kl_31 1 = some (.getfield 38, [3, 6])) hW ha0 (by decide) rfl ?_
  refine en_segs [(4, .aload_n 0, [])] (by decide +kernel) (y := (5, [some (.ref a0)], [.ref a0, .int (cI c3 6 a0)], h)) rfl ?_
  refine en_get (by decide +kernel : u_at kl_31 5 = some (.getfield 35, [3, 5])) hW ha0 (by decide) rfl ?_
  refine en_segs [(8, .iconst 1, []), (9, .isub, [])] (by decide +kernel) (y := (10, [some (.ref a0)], [.int ((cI c3 5 a0) - 1), .int (cI c3 6 a0)], h)) rfl ?_
  obtain ⟨t1, hX, hK⟩ := ob_some hF
  have j2 : ∀ h : UH, HW (mkw c0 c1 c2 t1 c4 c5 c6 c7 c8 c9 c10 c11 c12 c13) d h → Ends (EX D) (u_at kl_31) (23, [some (.ref a0)], [], h) QQ := by
    intro h hW
    have hF := hK
    obtain rfl := Option.some.inj hF
    exact en_ret (by decide +kernel : u_at kl_31 23 = some (.return_, [])) rfl (hQ _ hW)
  have hF := hX
  refine en_ic_ge (by decide +kernel : u_at kl_31 10 = some (.if_icmp .ge 13, [23])) (fun b3 => ?_) (fun b3 => ?_)
  · replace hF := i_pos b3 hF
    obtain rfl := Option.some.inj hF
    exact j2 _ hW
  · replace hF := i_neg b3 hF
    refine en_segs [(13, .aload_n 0, []), (14, .dup, [])] (by decide +kernel) (y := (15, [some (.ref a0)], [.ref a0, .ref a0], h)) rfl ?_
    refine en_get (by decide +kernel : u_at kl_31 15 = some (.getfield 38, [3, 6])) hW ha0 (by decide) rfl ?_
    refine en_segs [(18, .iconst 1, []), (19, .iadd, [])] (by decide +kernel) (y := (20, [some (.ref a0)], [.int ((cI c3 6 a0) + 1), .ref a0], h)) rfl ?_
    obtain ⟨c3_4, hc3_4, hF⟩ := ob_some hF
    refine en_putI (by decide +kernel : u_at kl_31 20 = some (.putfield 38, [3, 6, 0])) hW ha0 rfl (by decide) rfl (fun h hW => ?_)
    have hW : HW (mkw c0 c1 c2 c3_4 c4 c5 c6 c7 c8 c9 c10 c11 c12 c13) d h := by rw [← Option.some.inj hc3_4]; exact hW
    obtain rfl := Option.some.inj hF
    exact j2 _ hW
def G_34 (a0 : Nat) (lab : Nat) (xs : List Int32) (ys : List Int64) (zs : List Nat) (c3 : Cl) : Option (Int32 × Cl) := match lab, xs, ys, zs with
  | 0, [x1, x2], [], [] =>
    ald (cA c3 2 a0) 401 (cI c3 6 a0) >>= fun v6 =>
    if v6 = 31 then
    G_34 a0 1 [] [] [] c3
    else
    ald (cA c3 3 a0) 401 (cI c3 6 a0) >>= fun v8 =>
    if v8 < x1 then
    G_34 a0 1 [] [] [] c3
    else
    ald (cA c3 3 a0) 401 (cI c3 6 a0) >>= fun v10 =>
    if v10 ≤ x2 then
    G_34 a0 2 [] [] [] c3
    else
    G_34 a0 1 [] [] [] c3
  | 1, [], [], [] =>
    F_28 c3 a0 1 >>= fun r16 =>
    G_34 a0 2 [] [] [] r16
  | 2, [], [], [] =>
    ((if (cI c3 7 a0) = 0 then
    some 1
    else
    some 0) : Option (Int32)) >>= fun (t12 : Int32) =>
    zb t12 >>= fun z14 => some (z14, c3)
  | _, _, _, _ => none
partial_fixpoint
set_option maxRecDepth 100000 in
set_option maxHeartbeats 4000000 in
theorem g_34 {D : Nat} (hD : 2 ≤ D + 1) {c0 c1 c2 c4 c5 c6 c7 c8 c9 c10 c11 c12 c13 : Cl} {d : Ad} {a0 : Nat} (ha0 : aK d a0 = (0, 3, 0)) : ∀ (lab : Nat) (xs : List Int32) (ys : List Int64) (zs : List Nat) (c3 : Cl) (r : (Int32 × Cl)), G_34 a0 lab xs ys zs c3 = some r →
    (∀ (x1 : Int32) (x2 : Int32), lab = 0 → xs = [x1, x2] → ys = [] → zs = [] → ∀ h : UH, HW (mkw c0 c1 c2 c3 c4 c5 c6 c7 c8 c9 c10 c11 c12 c13) d h → ∀ QQ : UR → Prop, (∀ h' : UH, HW (mkw c0 c1 c2 r.2 c4 c5 c6 c7 c8 c9 c10 c11 c12 c13) d h' → QQ (some (.int r.1), h')) → Ends (EX D) (u_at kl_34) (36, [some (.ref a0), some (.int x1), some (.int x2)], [], h) QQ) ∧
    (∀ (_ : Unit), lab = 1 → xs = [] → ys = [] → zs = [] → ∀ h : UH, HW (mkw c0 c1 c2 c3 c4 c5 c6 c7 c8 c9 c10 c11 c12 c13) d h → ∀ QQ : UR → Prop, (∀ h' : UH, HW (mkw c0 c1 c2 r.2 c4 c5 c6 c7 c8 c9 c10 c11 c12 c13) d h' → QQ (some (.int r.1), h')) → Ends (EX D) (u_at kl_34) (76, [some (.ref a0), none, none], [], h) QQ) ∧
    (∀ (_ : Unit), lab = 2 → xs = [] → ys = [] → zs = [] → ∀ h : UH, HW (mkw c0 c1 c2 c3 c4 c5 c6 c7 c8 c9 c10 c11 c12 c13) d h → ∀ QQ : UR → Prop, (∀ h' : UH, HW (mkw c0 c1 c2 r.2 c4 c5 c6 c7 c8 c9 c10 c11 c12 c13) d h' → QQ (some (.int r.1), h')) → Ends (EX D) (u_at kl_34) (81, [some (.ref a0), none, none], [], h) QQ) := by
  refine G_34.partial_correctness _ (motive := fun lab xs ys zs c3 r =>
    (∀ (x1 : Int32) (x2 : Int32), lab = 0 → xs = [x1, x2] → ys = [] → zs = [] → ∀ h : UH, HW (mkw c0 c1 c2 c3 c4 c5 c6 c7 c8 c9 c10 c11 c12 c13) d h → ∀ QQ : UR → Prop, (∀ h' : UH, HW (mkw c0 c1 c2 r.2 c4 c5 c6 c7 c8 c9 c10 c11 c12 c13) d h' → QQ (some (.int r.1), h')) → Ends (EX D) (u_at kl_34) (36, [some (.ref a0), some (.int x1), some (.int x2)], [], h) QQ) ∧
    (∀ (_ : Unit), lab = 1 → xs = [] → ys = [] → zs = [] → ∀ h : UH, HW (mkw c0 c1 c2 c3 c4 c5 c6 c7 c8 c9 c10 c11 c12 c13) d h → ∀ QQ : UR → Prop, (∀ h' : UH, HW (mkw c0 c1 c2 r.2 c4 c5 c6 c7 c8 c9 c10 c11 c12 c13) d h' → QQ (some (.int r.1), h')) → Ends (EX D) (u_at kl_34) (76, [some (.ref a0), none, none], [], h) QQ) ∧
    (∀ (_ : Unit), lab = 2 → xs = [] → ys = [] → zs = [] → ∀ h : UH, HW (mkw c0 c1 c2 c3 c4 c5 c6 c7 c8 c9 c10 c11 c12 c13) d h → ∀ QQ : UR → Prop, (∀ h' : UH, HW (mkw c0 c1 c2 r.2 c4 c5 c6 c7 c8 c9 c10 c11 c12 c13) d h' → QQ (some (.int r.1), h')) → Ends (EX D) (u_at kl_34) (81, [some (.ref a0), none, none], [], h) QQ)) ?_
  intro G ih lab xs ys zs c3 r hF
  refine ⟨?_, ?_, ?_⟩
  · intro x1 x2 e1 e2 e3 e4 h hW QQ hQ
    subst e1 e2 e3 e4
    refine en_segs [(36, .aload_n 0, [])] (by decide +kernel) (y := (37, [some (.ref a0), some (.int x1), some (.int x2)], [.ref a0], h)) rfl ?_
    refine en_get (by decide +kernel : u_at kl_34 37 = some (.getfield 9, [3, 2])) hW ha0 (by decide) rfl ?_
    refine en_segs [(40, .aload_n 0, [])] (by decide +kernel) (y := (41, [some (.ref a0), some (.int x1), some (.int x2)], [.ref a0, .ref (aP d 3 2 a0)], h)) rfl ?_
    refine en_get (by decide +kernel : u_at kl_34 41 = some (.getfield 38, [3, 6])) hW ha0 (by decide) rfl ?_
    obtain ⟨v6, hv6, hF⟩ := ob_some hF
    refine en_iald (by decide +kernel : u_at kl_34 44 = some (.iaload, [])) hW ha0 rfl (by decide) hv6 ?_
    refine en_segs [(45, .bipush 31, [])] (by decide +kernel) (y := (47, [some (.ref a0), some (.int x1), some (.int x2)], [.int 31, .int v6], h)) rfl ?_
    refine en_ic_eq (by decide +kernel : u_at kl_34 47 = some (.if_icmp .eq 29, [76])) (fun b7 => ?_) (fun b7 => ?_)
    · replace hF := i_pos b7 hF
      refine en_fg (fg_k (fg_d (fg_d fg_0))) ?_
      exact (ih _ _ _ _ _ _ hF).2.1 () rfl rfl rfl rfl  _ hW _ hQ
    · replace hF := i_neg b7 hF
      refine en_segs [(50, .aload_n 0, [])] (by decide +kernel) (y := (51, [some (.ref a0), some (.int x1), some (.int x2)], [.ref a0], h)) rfl ?_
      refine en_get (by decide +kernel : u_at kl_34 51 = some (.getfield 15, [3, 3])) hW ha0 (by decide) rfl ?_
      refine en_segs [(54, .aload_n 0, [])] (by decide +kernel) (y := (55, [some (.ref a0), some (.int x1), some (.int x2)], [.ref a0, .ref (aP d 3 3 a0)], h)) rfl ?_
      refine en_get (by decide +kernel : u_at kl_34 55 = some (.getfield 38, [3, 6])) hW ha0 (by decide) rfl ?_
      obtain ⟨v8, hv8, hF⟩ := ob_some hF
      refine en_iald (by decide +kernel : u_at kl_34 58 = some (.iaload, [])) hW ha0 rfl (by decide) hv8 ?_
      refine en_segs [(59, .iload_n 1, [])] (by decide +kernel) (y := (60, [some (.ref a0), some (.int x1), some (.int x2)], [.int x1, .int v8], h)) rfl ?_
      refine en_ic_lt (by decide +kernel : u_at kl_34 60 = some (.if_icmp .lt 16, [76])) (fun b9 => ?_) (fun b9 => ?_)
      · replace hF := i_pos b9 hF
        refine en_fg (fg_k (fg_d (fg_d fg_0))) ?_
        exact (ih _ _ _ _ _ _ hF).2.1 () rfl rfl rfl rfl  _ hW _ hQ
      · replace hF := i_neg b9 hF
        refine en_segs [(63, .aload_n 0, [])] (by decide +kernel) (y := (64, [some (.ref a0), some (.int x1), some (.int x2)], [.ref a0], h)) rfl ?_
        refine en_get (by decide +kernel : u_at kl_34 64 = some (.getfield 15, [3, 3])) hW ha0 (by decide) rfl ?_
        refine en_segs [(67, .aload_n 0, [])] (by decide +kernel) (y := (68, [some (.ref a0), some (.int x1), some (.int x2)], [.ref a0, .ref (aP d 3 3 a0)], h)) rfl ?_
        refine en_get (by decide +kernel : u_at kl_34 68 = some (.getfield 38, [3, 6])) hW ha0 (by decide) rfl ?_
        obtain ⟨v10, hv10, hF⟩ := ob_some hF
        refine en_iald (by decide +kernel : u_at kl_34 71 = some (.iaload, [])) hW ha0 rfl (by decide) hv10 ?_
        refine en_segs [(72, .iload_n 2, [])] (by decide +kernel) (y := (73, [some (.ref a0), some (.int x1), some (.int x2)], [.int x2, .int v10], h)) rfl ?_
        refine en_ic_le (by decide +kernel : u_at kl_34 73 = some (.if_icmp .le 8, [81])) (fun b11 => ?_) (fun b11 => ?_)
        · replace hF := i_pos b11 hF
          refine en_fg (fg_k (fg_d (fg_d fg_0))) ?_
          exact (ih _ _ _ _ _ _ hF).2.2 () rfl rfl rfl rfl  _ hW _ hQ
        · replace hF := i_neg b11 hF
          refine en_fg (fg_k (fg_d (fg_d fg_0))) ?_
          exact (ih _ _ _ _ _ _ hF).2.1 () rfl rfl rfl rfl  _ hW _ hQ
  · intro _ e1 e2 e3 e4 h hW QQ hQ
    subst e1 e2 e3 e4
    refine en_segs [(76, .aload_n 0, []), (77, .iconst 1, [])] (by decide +kernel) (y := (78, [some (.ref a0), none, none], [.int 1, .ref a0], h)) rfl ?_
    obtain ⟨r16, hr16, hF⟩ := ob_some hF
    refine en_vv (r := []) (by decide +kernel : u_at kl_34 78 = some (.invokevirtual 75, [28, 1, 3])) hW ha0 rfl rfl (Nat.le_of_ble_eq_true rfl) (e_28 (D := D) (by omega) hW ha0 hr16) (fun h hW => ?_)
    have hW : HW (mkw c0 c1 c2 r16 c4 c5 c6 c7 c8 c9 c10 c11 c12 c13) d h := hW
    exact (ih _ _ _ _ _ _ hF).2.2 () rfl rfl rfl rfl  _ hW _ hQ
  · intro _ e1 e2 e3 e4 h hW QQ hQ
    subst e1 e2 e3 e4
    refine en_segs [(81, .aload_n 0, [])] (by decide +kernel) (y := (82, [some (.ref a0), none, none], [.ref a0], h)) rfl ?_
    refine en_get (by decide +kernel : u_at kl_34 82 = some (.getfield 41, [3, 7])) hW ha0 (by decide) rfl ?_
    obtain ⟨t12, hX, hK⟩ := ob_some hF
    have j13 : ∀ h : UH, HW (mkw c0 c1 c2 c3 c4 c5 c6 c7 c8 c9 c10 c11 c12 c13) d h → Ends (EX D) (u_at kl_34) (93, [some (.ref a0), none, none], [.int t12], h) QQ := by
      intro h hW
      have hF := hK
      obtain ⟨z14, hz14, hF⟩ := ob_some hF
      obtain rfl := Option.some.inj hF
      exact en_retZ (by decide +kernel : u_at kl_34 93 = some (.ireturn, [1])) hz14 (hQ _ hW)
    have hF := hX
    refine en_if_ne (by decide +kernel : u_at kl_34 85 = some (.ifCond .ne 7, [92])) (fun b15 => ?_) (fun b15 => ?_)
    · replace hF := i_pos b15 hF
      refine en_segs [(88, .iconst 1, []), (89, .goto 4, [93])] (by decide +kernel) (y := (93, [some (.ref a0), none, none], [.int 1], h)) rfl ?_
      obtain rfl := Option.some.inj hF
      exact j13 _ hW
    · replace hF := i_neg b15 hF
      refine en_segs [(92, .iconst 0, [])] (by decide +kernel) (y := (93, [some (.ref a0), none, none], [.int 0], h)) rfl ?_
      obtain rfl := Option.some.inj hF
      exact j13 _ hW
def F_34 (c3 : Cl) (a0 : Nat) (p1 : Int32) (p2 : Int32) : Option (Int32 × Cl) :=
  ald (cA c3 2 a0) 401 (cI c3 6 a0) >>= fun v1 =>
  if v1 = 30 then
  G_34 a0 0 [p1, p2] [] [] c3
  else
  ald (cA c3 2 a0) 401 (cI c3 6 a0) >>= fun v3 =>
  if v3 = 31 then
  G_34 a0 0 [p1, p2] [] [] c3
  else
  F_28 c3 a0 0 >>= fun r5 =>
  G_34 a0 2 [] [] [] r5
set_option maxRecDepth 100000 in
set_option maxHeartbeats 4000000 in
/-- HeadCounts$Reader.hasNumber -/
theorem e_34 {D : Nat} {c0 c1 c2 c3 c4 c5 c6 c7 c8 c9 c10 c11 c12 c13 : Cl} {d : Ad} {h : UH} {a0 : Nat} {p1 : Int32} {p2 : Int32} {r : (Int32 × Cl)} (hD : 2 ≤ D) (hW : HW (mkw c0 c1 c2 c3 c4 c5 c6 c7 c8 c9 c10 c11 c12 c13) d h) (ha0 : aK d a0 = (0, 3, 0)) (hF : F_34 c3 a0 p1 p2 = some r) : ∃ q, EX D 34 [.ref a0, .int p1, .int p2] h q ∧ q.1 = some (.int r.1) ∧ HW (mkw c0 c1 c2 r.2 c4 c5 c6 c7 c8 c9 c10 c11 c12 c13) d q.2 := by
  obtain ⟨D, rfl⟩ : ∃ E, D = E + 1 := ⟨D - 1, by omega⟩
  unfold F_34 at hF
  refine ex_in (kl := kl_34) (nL := 3) rfl (by decide +kernel) (Nat.le_of_ble_eq_true rfl) ?_
  obtain ⟨QQ, hQQ⟩ : ∃ QQ : UR → Prop, QQ = (fun q : UR => q.1 = some (.int r.1) ∧ HW (mkw c0 c1 c2 r.2 c4 c5 c6 c7 c8 c9 c10 c11 c12 c13) d q.2) := ⟨_, rfl⟩
  rw [← hQQ]
  have hQ : ∀ h' : UH, HW (mkw c0 c1 c2 r.2 c4 c5 c6 c7 c8 c9 c10 c11 c12 c13) d h' → QQ (some (.int r.1), h') := fun h' p => by rw [hQQ]; exact ⟨rfl, p⟩
  clear hQQ
  show Ends (EX D) (u_at kl_34) (0, [some (.ref a0), some (.int p1), some (.int p2)], [], h) QQ
  refine en_segs [(0, .aload_n 0, [])] (by decide +kernel) (y := (1, [some (.ref a0), some (.int p1), some (.int p2)], [.ref a0], h)) rfl ?_
  refine en_get (by decide +kernel : u_at kl_34 1 = some (.getfield 9, [3, 2])) hW ha0 (by decide) rfl ?_
  refine en_segs [(4, .aload_n 0, [])] (by decide +kernel) (y := (5, [some (.ref a0), some (.int p1), some (.int p2)], [.ref a0, .ref (aP d 3 2 a0)], h)) rfl ?_
  refine en_get (by decide +kernel : u_at kl_34 5 = some (.getfield 38, [3, 6])) hW ha0 (by decide) rfl ?_
  obtain ⟨v1, hv1, hF⟩ := ob_some hF
  refine en_iald (by decide +kernel : u_at kl_34 8 = some (.iaload, [])) hW ha0 rfl (by decide) hv1 ?_
  refine en_segs [(9, .bipush 30, [])] (by decide +kernel) (y := (11, [some (.ref a0), some (.int p1), some (.int p2)], [.int 30, .int v1], h)) rfl ?_
  refine en_ic_eq (by decide +kernel : u_at kl_34 11 = some (.if_icmp .eq 25, [36])) (fun b2 => ?_) (fun b2 => ?_)
  · replace hF := i_pos b2 hF
    exact (g_34 (D := D) hD ha0 _ _ _ _ _ _ hF).1 _ _ rfl rfl rfl rfl  _ hW _ hQ
  · replace hF := i_neg b2 hF
    refine en_segs [(14, .aload_n 0, [])] (by decide +kernel) (y := (15, [some (.ref a0), some (.int p1), some (.int p2)], [.ref a0], h)) rfl ?_
    refine en_get (by decide +kernel : u_at kl_34 15 = some (.getfield 9, [3, 2])) hW ha0 (by decide) rfl ?_
    refine en_segs [(18, .aload_n 0, [])] (by decide +kernel) (y := (19, [some (.ref a0), some (.int p1), some (.int p2)], [.ref a0, .ref (aP d 3 2 a0)], h)) rfl ?_
    refine en_get (by decide +kernel : u_at kl_34 19 = some (.getfield 38, [3, 6])) hW ha0 (by decide) rfl ?_
    obtain ⟨v3, hv3, hF⟩ := ob_some hF
    refine en_iald (by decide +kernel : u_at kl_34 22 = some (.iaload, [])) hW ha0 rfl (by decide) hv3 ?_
    refine en_segs [(23, .bipush 31, [])] (by decide +kernel) (y := (25, [some (.ref a0), some (.int p1), some (.int p2)], [.int 31, .int v3], h)) rfl ?_
    refine en_ic_eq (by decide +kernel : u_at kl_34 25 = some (.if_icmp .eq 11, [36])) (fun b4 => ?_) (fun b4 => ?_)
    · replace hF := i_pos b4 hF
      exact (g_34 (D := D) hD ha0 _ _ _ _ _ _ hF).1 _ _ rfl rfl rfl rfl  _ hW _ hQ
    · replace hF := i_neg b4 hF
      refine en_segs [(28, .aload_n 0, []), (29, .iconst 0, [])] (by decide +kernel) (y := (30, [some (.ref a0), some (.int p1), some (.int p2)], [.int 0, .ref a0], h)) rfl ?_
      obtain ⟨r5, hr5, hF⟩ := ob_some hF
      refine en_vv (r := []) (by decide +kernel : u_at kl_34 30 = some (.invokevirtual 75, [28, 1, 3])) hW ha0 rfl rfl (Nat.le_of_ble_eq_true rfl) (e_28 (D := D) (by omega) hW ha0 hr5) (fun h hW => ?_)
      have hW : HW (mkw c0 c1 c2 r5 c4 c5 c6 c7 c8 c9 c10 c11 c12 c13) d h := hW
      refine en_segs [(33, .goto 48, [81])] (by decide +kernel) (y := (81, [some (.ref a0), some (.int p1), some (.int p2)], [], h)) rfl ?_
      refine en_fg (fg_k (fg_d (fg_d fg_0))) ?_
      exact (g_34 (D := D) hD ha0 _ _ _ _ _ _ hF).2.2 () rfl rfl rfl rfl  _ hW _ hQ
def F_35 (c3 : Cl) (a0 : Nat) (p1 : Int32) (p2 : Int32) : Option (Int32 × Cl) :=
  F_34 c3 a0 p1 p2 >>= fun r1 =>
  ((if r1.1 = 0 then
  some (-1)
  else
  ald (cA r1.2 3 a0) 401 (cI r1.2 6 a0) >>= fun v6 =>
  some v6) : Option (Int32)) >>= fun (t2 : Int32) =>
  F_31 r1.2 a0 >>= fun r4 =>
  some (t2, r4)
set_option maxRecDepth 100000 in
set_option maxHeartbeats 4000000 in
/-- HeadCounts$Reader.takeNumber -/
theorem e_35 {D : Nat} {c0 c1 c2 c3 c4 c5 c6 c7 c8 c9 c10 c11 c12 c13 : Cl} {d : Ad} {h : UH} {a0 : Nat} {p1 : Int32} {p2 : Int32} {r : (Int32 × Cl)} (hD : 3 ≤ D) (hW : HW (mkw c0 c1 c2 c3 c4 c5 c6 c7 c8 c9 c10 c11 c12 c13) d h) (ha0 : aK d a0 = (0, 3, 0)) (hF : F_35 c3 a0 p1 p2 = some r) : ∃ q, EX D 35 [.ref a0, .int p1, .int p2] h q ∧ q.1 = some (.int r.1) ∧ HW (mkw c0 c1 c2 r.2 c4 c5 c6 c7 c8 c9 c10 c11 c12 c13) d q.2 := by
  obtain ⟨D, rfl⟩ : ∃ E, D = E + 1 := ⟨D - 1, by omega⟩
  unfold F_35 at hF
  refine ex_in (kl := kl_35) (nL := 4) rfl (by decide +kernel) (Nat.le_of_ble_eq_true rfl) ?_
  obtain ⟨QQ, hQQ⟩ : ∃ QQ : UR → Prop, QQ = (fun q : UR => q.1 = some (.int r.1) ∧ HW (mkw c0 c1 c2 r.2 c4 c5 c6 c7 c8 c9 c10 c11 c12 c13) d q.2) := ⟨_, rfl⟩
  rw [← hQQ]
  have hQ : ∀ h' : UH, HW (mkw c0 c1 c2 r.2 c4 c5 c6 c7 c8 c9 c10 c11 c12 c13) d h' → QQ (some (.int r.1), h') := fun h' p => by rw [hQQ]; exact ⟨rfl, p⟩
  clear hQQ
  show Ends (EX D) (u_at kl_35) (0, [some (.ref a0), some (.int p1), some (.int p2), none], [], h) QQ
  refine en_segs [(0, .aload_n 0, []), (1, .iload_n 1, []), (2, .iload_n 2, [])] (by decide +kernel) (y := (3, [some (.ref a0), some (.int p1), some (.int p2), none], [.int p2, .int p1, .ref a0], h)) rfl ?_
  obtain ⟨r1, hr1, hF⟩ := ob_some hF
  refine en_vi (r := []) (by decide +kernel : u_at kl_35 3 = some (.invokevirtual 83, [34, 2, 3])) hW ha0 rfl rfl (Nat.le_of_ble_eq_true rfl) (e_34 (D := D) (by omega) hW ha0 hr1) (fun h hW => ?_)
  have hW : HW (mkw c0 c1 c2 r1.2 c4 c5 c6 c7 c8 c9 c10 c11 c12 c13) d h := hW
  obtain ⟨t2, hX, hK⟩ := ob_some hF
  have j3 : ∀ h : UH, HW (mkw c0 c1 c2 r1.2 c4 c5 c6 c7 c8 c9 c10 c11 c12 c13) d h → Ends (EX D) (u_at kl_35) (22, [some (.ref a0), some (.int p1), some (.int p2), none], [.int t2], h) QQ := by
    intro h hW
    have hF := hK
    refine en_segs [(22, .istore_n 3, []), (23, .aload_n 0, [])] (by decide +kernel) (y := (24, [some (.ref a0), some (.int p1), some (.int p2), some (.int t2)], [.ref a0], h)) rfl ?_
    obtain ⟨r4, hr4, hF⟩ := ob_some hF
    refine en_vv (r := []) (by decide +kernel : u_at kl_35 24 = some (.invokevirtual 72, [31, 0, 3])) hW ha0 rfl rfl (Nat.le_of_ble_eq_true rfl) (e_31 (D := D) (by omega) hW ha0 hr4) (fun h hW => ?_)
    have hW : HW (mkw c0 c1 c2 r4 c4 c5 c6 c7 c8 c9 c10 c11 c12 c13) d h := hW
    refine en_segs [(27, .iload_n 3, [])] (by decide +kernel) (y := (28, [some (.ref a0), some (.int p1), some (.int p2), some (.int t2)], [.int t2], h)) rfl ?_
    obtain rfl := Option.some.inj hF
    exact en_ret (by decide +kernel : u_at kl_35 28 = some (.ireturn, [0])) rfl (hQ _ hW)
  have hF := hX
  refine en_if_eq (by decide +kernel : u_at kl_35 6 = some (.ifCond .eq 15, [21])) (fun b5 => ?_) (fun b5 => ?_)
  · replace hF := i_pos b5 hF
    refine en_segs [(21, .iconst (-1), [])] (by decide +kernel) (y := (22, [some (.ref a0), some (.int p1), some (.int p2), none], [.int (-1)], h)) rfl ?_
    obtain rfl := Option.some.inj hF
    exact j3 _ hW
  · replace hF := i_neg b5 hF
    refine en_segs [(9, .aload_n 0, [])] (by decide +kernel) (y := (10, [some (.ref a0), some (.int p1), some (.int p2), none], [.ref a0], h)) rfl ?_
    refine en_get (by decide +kernel : u_at kl_35 10 = some (.getfield 15, [3, 3])) hW ha0 (by decide) rfl ?_
    refine en_segs [(13, .aload_n 0, [])] (by decide +kernel) (y := (14, [some (.ref a0), some (.int p1), some (.int p2), none], [.ref a0, .ref (aP d 3 3 a0)], h)) rfl ?_
    refine en_get (by decide +kernel : u_at kl_35 14 = some (.getfield 38, [3, 6])) hW ha0 (by decide) rfl ?_
    obtain ⟨v6, hv6, hF⟩ := ob_some hF
    refine en_iald (by decide +kernel : u_at kl_35 17 = some (.iaload, [])) hW ha0 rfl (by decide) hv6 ?_
    refine en_segs [(18, .goto 4, [22])] (by decide +kernel) (y := (22, [some (.ref a0), some (.int p1), some (.int p2), none], [.int v6], h)) rfl ?_
    obtain rfl := Option.some.inj hF
    exact j3 _ hW
def F_30 (c3 : Cl) (a0 : Nat) : Option Int32 :=
  ald (cA c3 3 a0) 401 (cI c3 6 a0) >>= fun v1 =>
  some v1
set_option maxRecDepth 100000 in
set_option maxHeartbeats 4000000 in
/-- HeadCounts$Reader.number -/
theorem e_30 {D : Nat} {c0 c1 c2 c3 c4 c5 c6 c7 c8 c9 c10 c11 c12 c13 : Cl} {d : Ad} {h : UH} {a0 : Nat} {r : Int32} (hD : 1 ≤ D) (hW : HW (mkw c0 c1 c2 c3 c4 c5 c6 c7 c8 c9 c10 c11 c12 c13) d h) (ha0 : aK d a0 = (0, 3, 0)) (hF : F_30 c3 a0 = some r) : ∃ q, EX D 30 [.ref a0] h q ∧ q.1 = some (.int r) ∧ h = q.2 := by
  obtain ⟨D, rfl⟩ : ∃ E, D = E + 1 := ⟨D - 1, by omega⟩
  unfold F_30 at hF
  refine ex_in (kl := kl_30) (nL := 1) rfl (by decide +kernel) (Nat.le_of_ble_eq_true rfl) ?_
  obtain ⟨QQ, hQQ⟩ : ∃ QQ : UR → Prop, QQ = (fun q : UR => q.1 = some (.int r) ∧ h = q.2) := ⟨_, rfl⟩
  rw [← hQQ]
  have hQ : QQ (some (.int r), h) := by rw [hQQ]; exact ⟨rfl, rfl⟩
  clear hQQ
  show Ends (EX D) (u_at kl_30) (0, [some (.ref a0)], [], h) QQ
  refine en_segs [(0, .aload_n 0, [])] (by decide +kernel) (y := (1, [some (.ref a0)], [.ref a0], h)) rfl ?_
  refine en_get (by decide +kernel : u_at kl_30 1 = some (.getfield 15, [3, 3])) hW ha0 (by decide) rfl ?_
  refine en_segs [(4, .aload_n 0, [])] (by decide +kernel) (y := (5, [some (.ref a0)], [.ref a0, .ref (aP d 3 3 a0)], h)) rfl ?_
  refine en_get (by decide +kernel : u_at kl_30 5 = some (.getfield 38, [3, 6])) hW ha0 (by decide) rfl ?_
  obtain ⟨v1, hv1, hF⟩ := ob_some hF
  refine en_iald (by decide +kernel : u_at kl_30 8 = some (.iaload, [])) hW ha0 rfl (by decide) hv1 ?_
  obtain rfl := Option.some.inj hF
  exact en_ret (by decide +kernel : u_at kl_30 9 = some (.ireturn, [0])) rfl (hQ)
def G_20 (c1 : Cl) (c2 : Cl) (a0 : Nat) (a1 : Nat) (lab : Nat) (xs : List Int32) (ys : List Int64) (zs : List Nat) (c3 : Cl) : Option (Cl × Cl) := match lab, xs, ys, zs with
  | 0, [x2], [], [] =>
    F_28 c3 (cR c2 0 a0) 1 >>= fun r10 =>
    G_20 c1 c2 a0 a1 1 [x2] [] [] r10
  | 1, [x2], [], [] =>
    F_30 c3 (cR c2 0 a0) >>= fun r12 =>
    F_11 c1 a1 x2 r12 >>= fun r13 =>
    F_31 c3 (cR c2 0 a0) >>= fun r14 =>
    some (r13, r14)
  | _, _, _, _ => none
partial_fixpoint
set_option maxRecDepth 100000 in
set_option maxHeartbeats 4000000 in
theorem g_20 {D : Nat} (hD : 3 ≤ D + 1) {c0 c1 c2 c4 c5 c6 c7 c8 c9 c10 c11 c12 c13 : Cl} {d : Ad} {a0 : Nat} {a1 : Nat} (ha0 : aK d a0 = (0, 2, 0)) (ha1 : aK d a1 = (0, 1, 0)) : ∀ (lab : Nat) (xs : List Int32) (ys : List Int64) (zs : List Nat) (c3 : Cl) (r : (Cl × Cl)), G_20 c1 c2 a0 a1 lab xs ys zs c3 = some r →
    (∀ (x2 : Int32), lab = 0 → xs = [x2] → ys = [] → zs = [] → ∀ h : UH, HW (mkw c0 c1 c2 c3 c4 c5 c6 c7 c8 c9 c10 c11 c12 c13) d h → ∀ QQ : UR → Prop, (∀ h' : UH, HW (mkw c0 r.1 c2 r.2 c4 c5 c6 c7 c8 c9 c10 c11 c12 c13) d h' → QQ (none, h')) → Ends (EX D) (u_at kl_20) (43, [some (.ref a0), some (.ref a1), some (.int x2)], [], h) QQ) ∧
    (∀ (x2 : Int32), lab = 1 → xs = [x2] → ys = [] → zs = [] → ∀ h : UH, HW (mkw c0 c1 c2 c3 c4 c5 c6 c7 c8 c9 c10 c11 c12 c13) d h → ∀ QQ : UR → Prop, (∀ h' : UH, HW (mkw c0 r.1 c2 r.2 c4 c5 c6 c7 c8 c9 c10 c11 c12 c13) d h' → QQ (none, h')) → Ends (EX D) (u_at kl_20) (51, [some (.ref a0), some (.ref a1), some (.int x2)], [], h) QQ) := by
  refine G_20.partial_correctness _ _ _ _ (motive := fun lab xs ys zs c3 r =>
    (∀ (x2 : Int32), lab = 0 → xs = [x2] → ys = [] → zs = [] → ∀ h : UH, HW (mkw c0 c1 c2 c3 c4 c5 c6 c7 c8 c9 c10 c11 c12 c13) d h → ∀ QQ : UR → Prop, (∀ h' : UH, HW (mkw c0 r.1 c2 r.2 c4 c5 c6 c7 c8 c9 c10 c11 c12 c13) d h' → QQ (none, h')) → Ends (EX D) (u_at kl_20) (43, [some (.ref a0), some (.ref a1), some (.int x2)], [], h) QQ) ∧
    (∀ (x2 : Int32), lab = 1 → xs = [x2] → ys = [] → zs = [] → ∀ h : UH, HW (mkw c0 c1 c2 c3 c4 c5 c6 c7 c8 c9 c10 c11 c12 c13) d h → ∀ QQ : UR → Prop, (∀ h' : UH, HW (mkw c0 r.1 c2 r.2 c4 c5 c6 c7 c8 c9 c10 c11 c12 c13) d h' → QQ (none, h')) → Ends (EX D) (u_at kl_20) (51, [some (.ref a0), some (.ref a1), some (.int x2)], [], h) QQ)) ?_
  intro G ih lab xs ys zs c3 r hF
  refine ⟨?_, ?_⟩
  · intro x2 e1 e2 e3 e4 h hW QQ hQ
    subst e1 e2 e3 e4
    refine en_segs [(43, .aload_n 0, [])] (by decide +kernel) (y := (44, [some (.ref a0), some (.ref a1), some (.int x2)], [.ref a0], h)) rfl ?_
    have k9 : aK d (cR c2 0 a0) = (0, 3, 0) := wf_obj hW ha0 (by decide) rfl
    refine en_get (by decide +kernel : u_at kl_20 44 = some (.getfield 9, [2, 0])) hW ha0 (by decide) rfl ?_
    refine en_segs [(47, .iconst 1, [])] (by decide +kernel) (y := (48, [some (.ref a0), some (.ref a1), some (.int x2)], [.int 1, .ref (cR c2 0 a0)], h)) rfl ?_
    obtain ⟨r10, hr10, hF⟩ := ob_some hF
    refine en_vv (r := []) (by decide +kernel : u_at kl_20 48 = some (.invokevirtual 44, [28, 1, 3])) hW k9 rfl rfl (Nat.le_of_ble_eq_true rfl) (e_28 (D := D) (by omega) hW k9 hr10) (fun h hW => ?_)
    have hW : HW (mkw c0 c1 c2 r10 c4 c5 c6 c7 c8 c9 c10 c11 c12 c13) d h := hW
    exact (ih _ _ _ _ _ _ hF).2 _ rfl rfl rfl rfl  _ hW _ hQ
  · intro x2 e1 e2 e3 e4 h hW QQ hQ
    subst e1 e2 e3 e4
    refine en_segs [(51, .aload_n 1, []), (52, .iload_n 2, []), (53, .aload_n 0, [])] (by decide +kernel) (y := (54, [some (.ref a0), some (.ref a1), some (.int x2)], [.ref a0, .int x2, .ref a1], h)) rfl ?_
    have k11 : aK d (cR c2 0 a0) = (0, 3, 0) := wf_obj hW ha0 (by decide) rfl
    refine en_get (by decide +kernel : u_at kl_20 54 = some (.getfield 9, [2, 0])) hW ha0 (by decide) rfl ?_
    obtain ⟨r12, hr12, hF⟩ := ob_some hF
    refine en_vi (r := [.int x2, .ref a1]) (by decide +kernel : u_at kl_20 57 = some (.invokevirtual 101, [30, 0, 3])) hW k11 rfl rfl (Nat.le_of_ble_eq_true rfl) (e_30 (D := D) (by omega) hW k11 hr12) (fun h' q => ?_)
    subst q
    obtain ⟨r13, hr13, hF⟩ := ob_some hF
    refine en_vv (r := []) (by decide +kernel : u_at kl_20 60 = some (.invokevirtual 107, [11, 2, 1])) hW ha1 rfl rfl (Nat.le_of_ble_eq_true rfl) (e_11 (D := D) (by omega) hW ha1 hr13) (fun h hW => ?_)
    have hW : HW (mkw c0 r13 c2 c3 c4 c5 c6 c7 c8 c9 c10 c11 c12 c13) d h := hW
    refine en_segs [(63, .aload_n 0, [])] (by decide +kernel) (y := (64, [some (.ref a0), some (.ref a1), some (.int x2)], [.ref a0], h)) rfl ?_
    refine en_get (by decide +kernel : u_at kl_20 64 = some (.getfield 9, [2, 0])) hW ha0 (by decide) rfl ?_
    obtain ⟨r14, hr14, hF⟩ := ob_some hF
    refine en_vv (r := []) (by decide +kernel : u_at kl_20 67 = some (.invokevirtual 51, [31, 0, 3])) hW k11 rfl rfl (Nat.le_of_ble_eq_true rfl) (e_31 (D := D) (by omega) hW k11 hr14) (fun h hW => ?_)
    have hW : HW (mkw c0 r13 c2 r14 c4 c5 c6 c7 c8 c9 c10 c11 c12 c13) d h := hW
    obtain rfl := Option.some.inj hF
    exact en_ret (by decide +kernel : u_at kl_20 70 = some (.return_, [])) rfl (hQ _ hW)
def F_20 (c1 : Cl) (c2 : Cl) (c3 : Cl) (a0 : Nat) (a1 : Nat) (p2 : Int32) : Option (Cl × Cl) :=
  F_34 c3 (cR c2 0 a0) 0 ((cI c1 0 a1) - 1) >>= fun r2 =>
  if r2.1 = 0 then
  some (c1, r2.2)
  else
  F_30 r2.2 (cR c2 0 a0) >>= fun r4 =>
  if r4 = p2 then
  G_20 c1 c2 a0 a1 0 [p2] [] [] r2.2
  else
  F_30 r2.2 (cR c2 0 a0) >>= fun r6 =>
  F_10 c1 a1 p2 r6 >>= fun r7 =>
  if r7 = 0 then
  G_20 c1 c2 a0 a1 1 [p2] [] [] r2.2
  else
  G_20 c1 c2 a0 a1 0 [p2] [] [] r2.2
set_option maxRecDepth 100000 in
set_option maxHeartbeats 4000000 in
/-- HeadCounts$HouseReader.readDoor -/
theorem e_20 {D : Nat} {c0 c1 c2 c3 c4 c5 c6 c7 c8 c9 c10 c11 c12 c13 : Cl} {d : Ad} {h : UH} {a0 : Nat} {a1 : Nat} {p2 : Int32} {r : (Cl × Cl)} (hD : 3 ≤ D) (hW : HW (mkw c0 c1 c2 c3 c4 c5 c6 c7 c8 c9 c10 c11 c12 c13) d h) (ha0 : aK d a0 = (0, 2, 0)) (ha1 : aK d a1 = (0, 1, 0)) (hF : F_20 c1 c2 c3 a0 a1 p2 = some r) : ∃ q, EX D 20 [.ref a0, .ref a1, .int p2] h q ∧ q.1 = none ∧ HW (mkw c0 r.1 c2 r.2 c4 c5 c6 c7 c8 c9 c10 c11 c12 c13) d q.2 := by
  obtain ⟨D, rfl⟩ : ∃ E, D = E + 1 := ⟨D - 1, by omega⟩
  unfold F_20 at hF
  refine ex_in (kl := kl_20) (nL := 3) rfl (by decide +kernel) (Nat.le_of_ble_eq_true rfl) ?_
  obtain ⟨QQ, hQQ⟩ : ∃ QQ : UR → Prop, QQ = (fun q : UR => q.1 = none ∧ HW (mkw c0 r.1 c2 r.2 c4 c5 c6 c7 c8 c9 c10 c11 c12 c13) d q.2) := ⟨_, rfl⟩
  rw [← hQQ]
  have hQ : ∀ h' : UH, HW (mkw c0 r.1 c2 r.2 c4 c5 c6 c7 c8 c9 c10 c11 c12 c13) d h' → QQ (none, h') := fun h' p => by rw [hQQ]; exact ⟨rfl, p⟩
  clear hQQ
  show Ends (EX D) (u_at kl_20) (0, [some (.ref a0), some (.ref a1), some (.int p2)], [], h) QQ
  refine en_segs [(0, .aload_n 0, [])] (by decide +kernel) (y := (1, [some (.ref a0), some (.ref a1), some (.int p2)], [.ref a0], h)) rfl ?_
  have k1 : aK d (cR c2 0 a0) = (0, 3, 0) := wf_obj hW ha0 (by decide) rfl
  refine en_get (by decide +kernel : u_at kl_20 1 = some (.getfield 9, [2, 0])) hW ha0 (by decide) rfl ?_
  refine en_segs [(4, .iconst 0, []), (5, .aload_n 1, [])] (by decide +kernel) (y := (6, [some (.ref a0), some (.ref a1), some (.int p2)], [.ref a1, .int 0, .ref (cR c2 0 a0)], h)) rfl ?_
  refine en_get (by decide +kernel : u_at kl_20 6 = some (.getfield 70, [1, 0])) hW ha1 (by decide) rfl ?_
  refine en_segs [(9, .iconst 1, []), (10, .isub, [])] (by decide +kernel) (y := (11, [some (.ref a0), some (.ref a1), some (.int p2)], [.int ((cI c1 0 a1) - 1), .int 0, .ref (cR c2 0 a0)], h)) rfl ?_
  obtain ⟨r2, hr2, hF⟩ := ob_some hF
  refine en_vi (r := []) (by decide +kernel : u_at kl_20 11 = some (.invokevirtual 97, [34, 2, 3])) hW k1 rfl rfl (Nat.le_of_ble_eq_true rfl) (e_34 (D := D) (by omega) hW k1 hr2) (fun h hW => ?_)
  have hW : HW (mkw c0 c1 c2 r2.2 c4 c5 c6 c7 c8 c9 c10 c11 c12 c13) d h := hW
  refine en_if_eq (by decide +kernel : u_at kl_20 14 = some (.ifCond .eq 56, [70])) (fun b3 => ?_) (fun b3 => ?_)
  · replace hF := i_pos b3 hF
    obtain rfl := Option.some.inj hF
    exact en_ret (by decide +kernel : u_at kl_20 70 = some (.return_, [])) rfl (hQ _ hW)
  · replace hF := i_neg b3 hF
    refine en_segs [(17, .aload_n 0, [])] (by decide +kernel) (y := (18, [some (.ref a0), some (.ref a1), some (.int p2)], [.ref a0], h)) rfl ?_
    refine en_get (by decide +kernel : u_at kl_20 18 = some (.getfield 9, [2, 0])) hW ha0 (by decide) rfl ?_
    obtain ⟨r4, hr4, hF⟩ := ob_some hF
    refine en_vi (r := []) (by decide +kernel : u_at kl_20 21 = some (.invokevirtual 101, [30, 0, 3])) hW k1 rfl rfl (Nat.le_of_ble_eq_true rfl) (e_30 (D := D) (by omega) hW k1 hr4) (fun h' q => ?_)
    subst q
    refine en_segs [(24, .iload_n 2, [])] (by decide +kernel) (y := (25, [some (.ref a0), some (.ref a1), some (.int p2)], [.int p2, .int r4], h)) rfl ?_
    refine en_ic_eq (by decide +kernel : u_at kl_20 25 = some (.if_icmp .eq 18, [43])) (fun b5 => ?_) (fun b5 => ?_)
    · replace hF := i_pos b5 hF
      exact (g_20 (D := D) hD ha0 ha1 _ _ _ _ _ _ hF).1 _ rfl rfl rfl rfl  _ hW _ hQ
    · replace hF := i_neg b5 hF
      refine en_segs [(28, .aload_n 1, []), (29, .iload_n 2, []), (30, .aload_n 0, [])] (by decide +kernel) (y := (31, [some (.ref a0), some (.ref a1), some (.int p2)], [.ref a0, .int p2, .ref a1], h)) rfl ?_
      refine en_get (by decide +kernel : u_at kl_20 31 = some (.getfield 9, [2, 0])) hW ha0 (by decide) rfl ?_
      obtain ⟨r6, hr6, hF⟩ := ob_some hF
      refine en_vi (r := [.int p2, .ref a1]) (by decide +kernel : u_at kl_20 34 = some (.invokevirtual 101, [30, 0, 3])) hW k1 rfl rfl (Nat.le_of_ble_eq_true rfl) (e_30 (D := D) (by omega) hW k1 hr6) (fun h' q => ?_)
      subst q
      obtain ⟨r7, hr7, hF⟩ := ob_some hF
      refine en_vi (r := []) (by decide +kernel : u_at kl_20 37 = some (.invokevirtual 104, [10, 2, 1])) hW ha1 rfl rfl (Nat.le_of_ble_eq_true rfl) (e_10 (D := D) (by omega) hW ha1 hr7) (fun h' q => ?_)
      subst q
      refine en_if_eq (by decide +kernel : u_at kl_20 40 = some (.ifCond .eq 11, [51])) (fun b8 => ?_) (fun b8 => ?_)
      · replace hF := i_pos b8 hF
        exact (g_20 (D := D) hD ha0 ha1 _ _ _ _ _ _ hF).2 _ rfl rfl rfl rfl  _ hW _ hQ
      · replace hF := i_neg b8 hF
        exact (g_20 (D := D) hD ha0 ha1 _ _ _ _ _ _ hF).1 _ rfl rfl rfl rfl  _ hW _ hQ
def F_19 (c1 : Cl) (c2 : Cl) (c3 : Cl) (a0 : Nat) (a1 : Nat) (p2 : Int32) (p3 : Int32) : Option (Cl × Cl) :=
  if p2 = 0 then
  F_35 c3 (cR c2 0 a0) 1 4 >>= fun r3 =>
  F_12 c1 a1 p3 r3.1 >>= fun r4 =>
  some (r4, r3.2)
  else
  if p2 = 13 then
  F_20 c1 c2 c3 a0 a1 p3 >>= fun r6 =>
  some (r6.1, r6.2)
  else
  if p2 = 14 then
  F_35 c3 (cR c2 0 a0) 0 5 >>= fun r9 =>
  ast c1 9 a1 6 p3 r9.1 >>= fun c1_10 =>
  some (c1_10, r9.2)
  else
  F_35 c3 (cR c2 0 a0) 1 99 >>= fun r12 =>
  ast c1 10 a1 6 p3 r12.1 >>= fun c1_13 =>
  some (c1_13, r12.2)
set_option maxRecDepth 100000 in
set_option maxHeartbeats 4000000 in
/-- HeadCounts$HouseReader.readOfRoom -/
theorem e_19 {D : Nat} {c0 c1 c2 c3 c4 c5 c6 c7 c8 c9 c10 c11 c12 c13 : Cl} {d : Ad} {h : UH} {a0 : Nat} {a1 : Nat} {p2 : Int32} {p3 : Int32} {r : (Cl × Cl)} (hD : 4 ≤ D) (hW : HW (mkw c0 c1 c2 c3 c4 c5 c6 c7 c8 c9 c10 c11 c12 c13) d h) (ha0 : aK d a0 = (0, 2, 0)) (ha1 : aK d a1 = (0, 1, 0)) (hF : F_19 c1 c2 c3 a0 a1 p2 p3 = some r) : ∃ q, EX D 19 [.ref a0, .ref a1, .int p2, .int p3] h q ∧ q.1 = none ∧ HW (mkw c0 r.1 c2 r.2 c4 c5 c6 c7 c8 c9 c10 c11 c12 c13) d q.2 := by
  obtain ⟨D, rfl⟩ : ∃ E, D = E + 1 := ⟨D - 1, by omega⟩
  unfold F_19 at hF
  refine ex_in (kl := kl_19) (nL := 4) rfl (by decide +kernel) (Nat.le_of_ble_eq_true rfl) ?_
  obtain ⟨QQ, hQQ⟩ : ∃ QQ : UR → Prop, QQ = (fun q : UR => q.1 = none ∧ HW (mkw c0 r.1 c2 r.2 c4 c5 c6 c7 c8 c9 c10 c11 c12 c13) d q.2) := ⟨_, rfl⟩
  rw [← hQQ]
  have hQ : ∀ h' : UH, HW (mkw c0 r.1 c2 r.2 c4 c5 c6 c7 c8 c9 c10 c11 c12 c13) d h' → QQ (none, h') := fun h' p => by rw [hQQ]; exact ⟨rfl, p⟩
  clear hQQ
  show Ends (EX D) (u_at kl_19) (0, [some (.ref a0), some (.ref a1), some (.int p2), some (.int p3)], [], h) QQ
  refine en_segs [(0, .iload_n 2, [])] (by decide +kernel) (y := (1, [some (.ref a0), some (.ref a1), some (.int p2), some (.int p3)], [.int p2], h)) rfl ?_
  by_cases b1 : p2 = 0
  · replace hF := i_pos b1 hF
    refine en_ls (by decide +kernel : u_at kl_19 1 = some (.lookupswitch 79 #[(0, 44), (13, 35), (14, 61)], [])) (u := 45) (by rw [b1]; decide) ?_
    refine en_segs [(45, .aload_n 1, []), (46, .iload_n 3, []), (47, .aload_n 0, [])] (by decide +kernel) (y := (48, [some (.ref a0), some (.ref a1), some (.int p2), some (.int p3)], [.ref a0, .int p3, .ref a1], h)) rfl ?_
    have k2 : aK d (cR c2 0 a0) = (0, 3, 0) := wf_obj hW ha0 (by decide) rfl
    refine en_get (by decide +kernel : u_at kl_19 48 = some (.getfield 9, [2, 0])) hW ha0 (by decide) rfl ?_
    refine en_segs [(51, .iconst 1, []), (52, .iconst 4, [])] (by decide +kernel) (y := (53, [some (.ref a0), some (.ref a1), some (.int p2), some (.int p3)], [.int 4, .int 1, .ref (cR c2 0 a0), .int p3, .ref a1], h)) rfl ?_
    obtain ⟨r3, hr3, hF⟩ := ob_some hF
    refine en_vi (r := [.int p3, .ref a1]) (by decide +kernel : u_at kl_19 53 = some (.invokevirtual 66, [35, 2, 3])) hW k2 rfl rfl (Nat.le_of_ble_eq_true rfl) (e_35 (D := D) (by omega) hW k2 hr3) (fun h hW => ?_)
    have hW : HW (mkw c0 c1 c2 r3.2 c4 c5 c6 c7 c8 c9 c10 c11 c12 c13) d h := hW
    obtain ⟨r4, hr4, hF⟩ := ob_some hF
    refine en_vv (r := []) (by decide +kernel : u_at kl_19 56 = some (.invokevirtual 86, [12, 2, 1])) hW ha1 rfl rfl (Nat.le_of_ble_eq_true rfl) (e_12 (D := D) (by omega) hW ha1 hr4) (fun h hW => ?_)
    have hW : HW (mkw c0 r4 c2 r3.2 c4 c5 c6 c7 c8 c9 c10 c11 c12 c13) d h := hW
    refine en_segs [(59, .goto 37, [96])] (by decide +kernel) (y := (96, [some (.ref a0), some (.ref a1), some (.int p2), some (.int p3)], [], h)) rfl ?_
    obtain rfl := Option.some.inj hF
    exact en_ret (by decide +kernel : u_at kl_19 96 = some (.return_, [])) rfl (hQ _ hW)
  · replace hF := i_neg b1 hF
    by_cases b5 : p2 = 13
    · replace hF := i_pos b5 hF
      refine en_ls (by decide +kernel : u_at kl_19 1 = some (.lookupswitch 79 #[(0, 44), (13, 35), (14, 61)], [])) (u := 36) (by rw [b5]; decide) ?_
      refine en_segs [(36, .aload_n 0, []), (37, .aload_n 1, []), (38, .iload_n 3, [])] (by decide +kernel) (y := (39, [some (.ref a0), some (.ref a1), some (.int p2), some (.int p3)], [.int p3, .ref a1, .ref a0], h)) rfl ?_
      obtain ⟨r6, hr6, hF⟩ := ob_some hF
      refine en_vv (r := []) (by decide +kernel : u_at kl_19 39 = some (.invokevirtual 83, [20, 2, 2])) hW ha0 rfl rfl (Nat.le_of_ble_eq_true rfl) (e_20 (D := D) (by omega) hW ha0 ha1 hr6) (fun h hW => ?_)
      have hW : HW (mkw c0 r6.1 c2 r6.2 c4 c5 c6 c7 c8 c9 c10 c11 c12 c13) d h := hW
      refine en_segs [(42, .goto 54, [96])] (by decide +kernel) (y := (96, [some (.ref a0), some (.ref a1), some (.int p2), some (.int p3)], [], h)) rfl ?_
      obtain rfl := Option.some.inj hF
      exact en_ret (by decide +kernel : u_at kl_19 96 = some (.return_, [])) rfl (hQ _ hW)
    · replace hF := i_neg b5 hF
      by_cases b7 : p2 = 14
      · replace hF := i_pos b7 hF
        refine en_ls (by decide +kernel : u_at kl_19 1 = some (.lookupswitch 79 #[(0, 44), (13, 35), (14, 61)], [])) (u := 62) (by rw [b7]; decide) ?_
        refine en_segs [(62, .aload_n 1, [])] (by decide +kernel) (y := (63, [some (.ref a0), some (.ref a1), some (.int p2), some (.int p3)], [.ref a1], h)) rfl ?_
        refine en_get (by decide +kernel : u_at kl_19 63 = some (.getfield 90, [1, 9])) hW ha1 (by decide) rfl ?_
        refine en_segs [(66, .iload_n 3, []), (67, .aload_n 0, [])] (by decide +kernel) (y := (68, [some (.ref a0), some (.ref a1), some (.int p2), some (.int p3)], [.ref a0, .int p3, .ref (aP d 1 9 a1)], h)) rfl ?_
        have k8 : aK d (cR c2 0 a0) = (0, 3, 0) := wf_obj hW ha0 (by decide) rfl
        refine en_get (by decide +kernel : u_at kl_19 68 = some (.getfield 9, [2, 0])) hW ha0 (by decide) rfl ?_
        refine en_segs [(71, .iconst 0, []), (72, .iconst 5, [])] (by decide +kernel) (y := (73, [some (.ref a0), some (.ref a1), some (.int p2), some (.int p3)], [.int 5, .int 0, .ref (cR c2 0 a0), .int p3, .ref (aP d 1 9 a1)], h)) rfl ?_
        obtain ⟨r9, hr9, hF⟩ := ob_some hF
        refine en_vi (r := [.int p3, .ref (aP d 1 9 a1)]) (by decide +kernel : u_at kl_19 73 = some (.invokevirtual 66, [35, 2, 3])) hW k8 rfl rfl (Nat.le_of_ble_eq_true rfl) (e_35 (D := D) (by omega) hW k8 hr9) (fun h hW => ?_)
        have hW : HW (mkw c0 c1 c2 r9.2 c4 c5 c6 c7 c8 c9 c10 c11 c12 c13) d h := hW
        obtain ⟨c1_10, hc1_10, hF⟩ := ob_some hF
        refine en_iast (by decide +kernel : u_at kl_19 76 = some (.iastore, [])) hW ha1 rfl (by decide) hc1_10 (fun h hW => ?_)
        have hW : HW (mkw c0 c1_10 c2 r9.2 c4 c5 c6 c7 c8 c9 c10 c11 c12 c13) d h := hW
        refine en_segs [(77, .goto 19, [96])] (by decide +kernel) (y := (96, [some (.ref a0), some (.ref a1), some (.int p2), some (.int p3)], [], h)) rfl ?_
        obtain rfl := Option.some.inj hF
        exact en_ret (by decide +kernel : u_at kl_19 96 = some (.return_, [])) rfl (hQ _ hW)
      · replace hF := i_neg b7 hF
        have wb1 : (p2 : Int32).toInt ≠ 0 := ti_ne b1
        have wb5 : (p2 : Int32).toInt ≠ 13 := ti_ne b5
        have wb7 : (p2 : Int32).toInt ≠ 14 := ti_ne b7
        refine en_ls (by decide +kernel : u_at kl_19 1 = some (.lookupswitch 79 #[(0, 44), (13, 35), (14, 61)], [])) (u := 80) (by simp [Op.lookupswitch.offset, Ne.symm wb1, Ne.symm wb5, Ne.symm wb7]) ?_
        refine en_segs [(80, .aload_n 1, [])] (by decide +kernel) (y := (81, [some (.ref a0), some (.ref a1), some (.int p2), some (.int p3)], [.ref a1], h)) rfl ?_
        refine en_get (by decide +kernel : u_at kl_19 81 = some (.getfield 94, [1, 10])) hW ha1 (by decide) rfl ?_
        refine en_segs [(84, .iload_n 3, []), (85, .aload_n 0, [])] (by decide +kernel) (y := (86, [some (.ref a0), some (.ref a1), some (.int p2), some (.int p3)], [.ref a0, .int p3, .ref (aP d 1 10 a1)], h)) rfl ?_
        have k11 : aK d (cR c2 0 a0) = (0, 3, 0) := wf_obj hW ha0 (by decide) rfl
        refine en_get (by decide +kernel : u_at kl_19 86 = some (.getfield 9, [2, 0])) hW ha0 (by decide) rfl ?_
        refine en_segs [(89, .iconst 1, []), (90, .bipush 99, [])] (by decide +kernel) (y := (92, [some (.ref a0), some (.ref a1), some (.int p2), some (.int p3)], [.int 99, .int 1, .ref (cR c2 0 a0), .int p3, .ref (aP d 1 10 a1)], h)) rfl ?_
        obtain ⟨r12, hr12, hF⟩ := ob_some hF
        refine en_vi (r := [.int p3, .ref (aP d 1 10 a1)]) (by decide +kernel : u_at kl_19 92 = some (.invokevirtual 66, [35, 2, 3])) hW k11 rfl rfl (Nat.le_of_ble_eq_true rfl) (e_35 (D := D) (by omega) hW k11 hr12) (fun h hW => ?_)
        have hW : HW (mkw c0 c1 c2 r12.2 c4 c5 c6 c7 c8 c9 c10 c11 c12 c13) d h := hW
        obtain ⟨c1_13, hc1_13, hF⟩ := ob_some hF
        refine en_iast (by decide +kernel : u_at kl_19 95 = some (.iastore, [])) hW ha1 rfl (by decide) hc1_13 (fun h hW => ?_)
        have hW : HW (mkw c0 c1_13 c2 r12.2 c4 c5 c6 c7 c8 c9 c10 c11 c12 c13) d h := hW
        obtain rfl := Option.some.inj hF
        exact en_ret (by decide +kernel : u_at kl_19 96 = some (.return_, [])) rfl (hQ _ hW)
def F_18 (c1 : Cl) (c2 : Cl) (c3 : Cl) (a0 : Nat) (a1 : Nat) (p2 : Int32) : Option (Cl × Cl × Cl) :=
  if p2 = 12 then
  F_35 c3 (cR c2 0 a0) 2 6 >>= fun r3 =>
  ((if (cI r3.2 7 (cR c2 0 a0)) = 0 then
  some r3.1
  else
  some 0) : Option (Int32)) >>= fun (t4 : Int32) =>
  some (sI c1 0 a1 t4) >>= fun c1_6 =>
  some (c1_6, c2, r3.2)
  else
  ((if p2 = 17 then
  F_35 c3 (cR c2 0 a0) 0 9 >>= fun r12 =>
  some (sI c1 4 a1 r12.1) >>= fun c1_13 =>
  some (sI c2 1 a0 1) >>= fun c2_14 =>
  some (c1_13, c2_14, r12.2)
  else
  if p2 = 16 then
  F_35 c3 (cR c2 0 a0) 1 ((1 <<< ((cI c1 0 a1) &&& 31)) - 1) >>= fun r17 =>
  F_13 c1 a1 r17.1 >>= fun r18 =>
  some (r18, c2, r17.2)
  else
  F_35 c3 (cR c2 0 a0) 0 ((cI c1 0 a1) - 1) >>= fun r20 =>
  if (cI r20.2 7 (cR c2 0 a0)) = 0 then
  F_19 c1 c2 r20.2 a0 a1 p2 r20.1 >>= fun r22 =>
  some (r22.1, c2, r22.2)
  else
  some (c1, c2, r20.2)) : Option (Cl × Cl × Cl)) >>= fun (t8 : Cl × Cl × Cl) =>
  some (t8.1, t8.2.1, t8.2.2)
set_option maxRecDepth 100000 in
set_option maxHeartbeats 4000000 in
/-- HeadCounts$HouseReader.readNumbers -/
theorem e_18 {D : Nat} {c0 c1 c2 c3 c4 c5 c6 c7 c8 c9 c10 c11 c12 c13 : Cl} {d : Ad} {h : UH} {a0 : Nat} {a1 : Nat} {p2 : Int32} {r : (Cl × Cl × Cl)} (hD : 5 ≤ D) (hW : HW (mkw c0 c1 c2 c3 c4 c5 c6 c7 c8 c9 c10 c11 c12 c13) d h) (ha0 : aK d a0 = (0, 2, 0)) (ha1 : aK d a1 = (0, 1, 0)) (hF : F_18 c1 c2 c3 a0 a1 p2 = some r) : ∃ q, EX D 18 [.ref a0, .ref a1, .int p2] h q ∧ q.1 = none ∧ HW (mkw c0 r.1 r.2.1 r.2.2 c4 c5 c6 c7 c8 c9 c10 c11 c12 c13) d q.2 := by
  obtain ⟨D, rfl⟩ : ∃ E, D = E + 1 := ⟨D - 1, by omega⟩
  unfold F_18 at hF
  refine ex_in (kl := kl_18) (nL := 4) rfl (by decide +kernel) (Nat.le_of_ble_eq_true rfl) ?_
  obtain ⟨QQ, hQQ⟩ : ∃ QQ : UR → Prop, QQ = (fun q : UR => q.1 = none ∧ HW (mkw c0 r.1 r.2.1 r.2.2 c4 c5 c6 c7 c8 c9 c10 c11 c12 c13) d q.2) := ⟨_, rfl⟩
  rw [← hQQ]
  have hQ : ∀ h' : UH, HW (mkw c0 r.1 r.2.1 r.2.2 c4 c5 c6 c7 c8 c9 c10 c11 c12 c13) d h' → QQ (none, h') := fun h' p => by rw [hQQ]; exact ⟨rfl, p⟩
  clear hQQ
  show Ends (EX D) (u_at kl_18) (0, [some (.ref a0), some (.ref a1), some (.int p2), none], [], h) QQ
  refine en_segs [(0, .iload_n 2, []), (1, .bipush 12, [])] (by decide +kernel) (y := (3, [some (.ref a0), some (.ref a1), some (.int p2), none], [.int 12, .int p2], h)) rfl ?_
  refine en_ic_ne (by decide +kernel : u_at kl_18 3 = some (.if_icmp .ne 36, [39])) (fun b1 => ?_) (fun b1 => ?_)
  · replace hF := i_pos b1 hF
    refine en_segs [(6, .aload_n 0, [])] (by decide +kernel) (y := (7, [some (.ref a0), some (.ref a1), some (.int p2), none], [.ref a0], h)) rfl ?_
    have k2 : aK d (cR c2 0 a0) = (0, 3, 0) := wf_obj hW ha0 (by decide) rfl
    refine en_get (by decide +kernel : u_at kl_18 7 = some (.getfield 9, [2, 0])) hW ha0 (by decide) rfl ?_
    refine en_segs [(10, .iconst 2, []), (11, .bipush 6, [])] (by decide +kernel) (y := (13, [some (.ref a0), some (.ref a1), some (.int p2), none], [.int 6, .int 2, .ref (cR c2 0 a0)], h)) rfl ?_
    obtain ⟨r3, hr3, hF⟩ := ob_some hF
    refine en_vi (r := []) (by decide +kernel : u_at kl_18 13 = some (.invokevirtual 66, [35, 2, 3])) hW k2 rfl rfl (Nat.le_of_ble_eq_true rfl) (e_35 (D := D) (by omega) hW k2 hr3) (fun h hW => ?_)
    have hW : HW (mkw c0 c1 c2 r3.2 c4 c5 c6 c7 c8 c9 c10 c11 c12 c13) d h := hW
    refine en_segs [(16, .istore_n 3, []), (17, .aload_n 1, []), (18, .aload_n 0, [])] (by decide +kernel) (y := (19, [some (.ref a0), some (.ref a1), some (.int p2), some (.int r3.1)], [.ref a0, .ref a1], h)) rfl ?_
    refine en_get (by decide +kernel : u_at kl_18 19 = some (.getfield 9, [2, 0])) hW ha0 (by decide) rfl ?_
    refine en_get (by decide +kernel : u_at kl_18 22 = some (.getfield 36, [3, 7])) hW k2 (by decide) rfl ?_
    obtain ⟨t4, hX, hK⟩ := ob_some hF
    have j5 : ∀ h : UH, HW (mkw c0 c1 c2 r3.2 c4 c5 c6 c7 c8 c9 c10 c11 c12 c13) d h → Ends (EX D) (u_at kl_18) (33, [some (.ref a0), some (.ref a1), some (.int p2), some (.int r3.1)], [.int t4, .ref a1], h) QQ := by
      intro h hW
      have hF := hK
      obtain ⟨c1_6, hc1_6, hF⟩ := ob_some hF
      refine en_putI (by decide +kernel : u_at kl_18 33 = some (.putfield 70, [1, 0, 0])) hW ha1 rfl (by decide) rfl (fun h hW => ?_)
      have hW : HW (mkw c0 c1_6 c2 r3.2 c4 c5 c6 c7 c8 c9 c10 c11 c12 c13) d h := by rw [← Option.some.inj hc1_6]; exact hW
      refine en_segs [(36, .goto 92, [128])] (by decide +kernel) (y := (128, [some (.ref a0), some (.ref a1), some (.int p2), some (.int r3.1)], [], h)) rfl ?_
      obtain rfl := Option.some.inj hF
      exact en_ret (by decide +kernel : u_at kl_18 128 = some (.return_, [])) rfl (hQ _ hW)
    have hF := hX
    refine en_if_ne (by decide +kernel : u_at kl_18 25 = some (.ifCond .ne 7, [32])) (fun b7 => ?_) (fun b7 => ?_)
    · replace hF := i_pos b7 hF
      refine en_segs [(28, .iload_n 3, []), (29, .goto 4, [33])] (by decide +kernel) (y := (33, [some (.ref a0), some (.ref a1), some (.int p2), some (.int r3.1)], [.int r3.1, .ref a1], h)) rfl ?_
      obtain rfl := Option.some.inj hF
      exact j5 _ hW
    · replace hF := i_neg b7 hF
      refine en_segs [(32, .iconst 0, [])] (by decide +kernel) (y := (33, [some (.ref a0), some (.ref a1), some (.int p2), some (.int r3.1)], [.int 0, .ref a1], h)) rfl ?_
      obtain rfl := Option.some.inj hF
      exact j5 _ hW
  · replace hF := i_neg b1 hF
    refine en_segs [(39, .iload_n 2, []), (40, .bipush 17, [])] (by decide +kernel) (y := (42, [some (.ref a0), some (.ref a1), some (.int p2), none], [.int 17, .int p2], h)) rfl ?_
    obtain ⟨t8, hX, hK⟩ := ob_some hF
    have j9 : ∀ h : UH, HW (mkw c0 t8.1 t8.2.1 t8.2.2 c4 c5 c6 c7 c8 c9 c10 c11 c12 c13) d h → Ends (EX D) (u_at kl_18) (128, [some (.ref a0), some (.ref a1), some (.int p2), none], [], h) QQ := by
      intro h hW
      have hF := hK
      obtain rfl := Option.some.inj hF
      exact en_ret (by decide +kernel : u_at kl_18 128 = some (.return_, [])) rfl (hQ _ hW)
    have hF := hX
    refine en_ic_ne (by decide +kernel : u_at kl_18 42 = some (.if_icmp .ne 25, [67])) (fun b10 => ?_) (fun b10 => ?_)
    · replace hF := i_pos b10 hF
      refine en_segs [(45, .aload_n 1, []), (46, .aload_n 0, [])] (by decide +kernel) (y := (47, [some (.ref a0), some (.ref a1), some (.int p2), none], [.ref a0, .ref a1], h)) rfl ?_
      have k11 : aK d (cR c2 0 a0) = (0, 3, 0) := wf_obj hW ha0 (by decide) rfl
      refine en_get (by decide +kernel : u_at kl_18 47 = some (.getfield 9, [2, 0])) hW ha0 (by decide) rfl ?_
      refine en_segs [(50, .iconst 0, []), (51, .bipush 9, [])] (by decide +kernel) (y := (53, [some (.ref a0), some (.ref a1), some (.int p2), none], [.int 9, .int 0, .ref (cR c2 0 a0), .ref a1], h)) rfl ?_
      obtain ⟨r12, hr12, hF⟩ := ob_some hF
      refine en_vi (r := [.ref a1]) (by decide +kernel : u_at kl_18 53 = some (.invokevirtual 66, [35, 2, 3])) hW k11 rfl rfl (Nat.le_of_ble_eq_true rfl) (e_35 (D := D) (by omega) hW k11 hr12) (fun h hW => ?_)
      have hW : HW (mkw c0 c1 c2 r12.2 c4 c5 c6 c7 c8 c9 c10 c11 c12 c13) d h := hW
      obtain ⟨c1_13, hc1_13, hF⟩ := ob_some hF
      refine en_putI (by decide +kernel : u_at kl_18 56 = some (.putfield 73, [1, 4, 0])) hW ha1 rfl (by decide) rfl (fun h hW => ?_)
      have hW : HW (mkw c0 c1_13 c2 r12.2 c4 c5 c6 c7 c8 c9 c10 c11 c12 c13) d h := by rw [← Option.some.inj hc1_13]; exact hW
      refine en_segs [(59, .aload_n 0, []), (60, .iconst 1, [])] (by decide +kernel) (y := (61, [some (.ref a0), some (.ref a1), some (.int p2), none], [.int 1, .ref a0], h)) rfl ?_
      obtain ⟨c2_14, hc2_14, hF⟩ := ob_some hF
      refine en_putI (by decide +kernel : u_at kl_18 61 = some (.putfield 24, [2, 1, 2])) hW ha0 rfl (by decide) rfl (fun h hW => ?_)
      have hW : HW (mkw c0 c1_13 c2_14 r12.2 c4 c5 c6 c7 c8 c9 c10 c11 c12 c13) d h := by rw [← Option.some.inj hc2_14]; exact hW
      refine en_segs [(64, .goto 64, [128])] (by decide +kernel) (y := (128, [some (.ref a0), some (.ref a1), some (.int p2), none], [], h)) rfl ?_
      obtain rfl := Option.some.inj hF
      exact j9 _ hW
    · replace hF := i_neg b10 hF
      refine en_segs [(67, .iload_n 2, []), (68, .bipush 16, [])] (by decide +kernel) (y := (70, [some (.ref a0), some (.ref a1), some (.int p2), none], [.int 16, .int p2], h)) rfl ?_
      refine en_ic_ne (by decide +kernel : u_at kl_18 70 = some (.if_icmp .ne 26, [96])) (fun b15 => ?_) (fun b15 => ?_)
      · replace hF := i_pos b15 hF
        refine en_segs [(73, .aload_n 1, []), (74, .aload_n 0, [])] (by decide +kernel) (y := (75, [some (.ref a0), some (.ref a1), some (.int p2), none], [.ref a0, .ref a1], h)) rfl ?_
        have k16 : aK d (cR c2 0 a0) = (0, 3, 0) := wf_obj hW ha0 (by decide) rfl
        refine en_get (by decide +kernel : u_at kl_18 75 = some (.getfield 9, [2, 0])) hW ha0 (by decide) rfl ?_
        refine en_segs [(78, .iconst 1, []), (79, .iconst 1, []), (80, .aload_n 1, [])] (by decide +kernel) (y := (81, [some (.ref a0), some (.ref a1), some (.int p2), none], [.ref a1, .int 1, .int 1, .ref (cR c2 0 a0), .ref a1], h)) rfl ?_
        refine en_get (by decide +kernel : u_at kl_18 81 = some (.getfield 70, [1, 0])) hW ha1 (by decide) rfl ?_
        refine en_segs [(84, .ishl, []), (85, .iconst 1, []), (86, .isub, [])] (by decide +kernel) (y := (87, [some (.ref a0), some (.ref a1), some (.int p2), none], [.int ((1 <<< ((cI c1 0 a1) &&& 31)) - 1), .int 1, .ref (cR c2 0 a0), .ref a1], h)) rfl ?_
        obtain ⟨r17, hr17, hF⟩ := ob_some hF
        refine en_vi (r := [.ref a1]) (by decide +kernel : u_at kl_18 87 = some (.invokevirtual 66, [35, 2, 3])) hW k16 rfl rfl (Nat.le_of_ble_eq_true rfl) (e_35 (D := D) (by omega) hW k16 hr17) (fun h hW => ?_)
        have hW : HW (mkw c0 c1 c2 r17.2 c4 c5 c6 c7 c8 c9 c10 c11 c12 c13) d h := hW
        obtain ⟨r18, hr18, hF⟩ := ob_some hF
        refine en_vv (r := []) (by decide +kernel : u_at kl_18 90 = some (.invokevirtual 76, [13, 1, 1])) hW ha1 rfl rfl (Nat.le_of_ble_eq_true rfl) (e_13 (D := D) (by omega) hW ha1 hr18) (fun h hW => ?_)
        have hW : HW (mkw c0 r18 c2 r17.2 c4 c5 c6 c7 c8 c9 c10 c11 c12 c13) d h := hW
        refine en_segs [(93, .goto 35, [128])] (by decide +kernel) (y := (128, [some (.ref a0), some (.ref a1), some (.int p2), none], [], h)) rfl ?_
        obtain rfl := Option.some.inj hF
        exact j9 _ hW
      · replace hF := i_neg b15 hF
        refine en_segs [(96, .aload_n 0, [])] (by decide +kernel) (y := (97, [some (.ref a0), some (.ref a1), some (.int p2), none], [.ref a0], h)) rfl ?_
        have k19 : aK d (cR c2 0 a0) = (0, 3, 0) := wf_obj hW ha0 (by decide) rfl
        refine en_get (by decide +kernel : u_at kl_18 97 = some (.getfield 9, [2, 0])) hW ha0 (by decide) rfl ?_
        refine en_segs [(100, .iconst 0, []), (101, .aload_n 1, [])] (by decide +kernel) (y := (102, [some (.ref a0), some (.ref a1), some (.int p2), none], [.ref a1, .int 0, .ref (cR c2 0 a0)], h)) rfl ?_
        refine en_get (by decide +kernel : u_at kl_18 102 = some (.getfield 70, [1, 0])) hW ha1 (by decide) rfl ?_
        refine en_segs [(105, .iconst 1, []), (106, .isub, [])] (by decide +kernel) (y := (107, [some (.ref a0), some (.ref a1), some (.int p2), none], [.int ((cI c1 0 a1) - 1), .int 0, .ref (cR c2 0 a0)], h)) rfl ?_
        obtain ⟨r20, hr20, hF⟩ := ob_some hF
        refine en_vi (r := []) (by decide +kernel : u_at kl_18 107 = some (.invokevirtual 66, [35, 2, 3])) hW k19 rfl rfl (Nat.le_of_ble_eq_true rfl) (e_35 (D := D) (by omega) hW k19 hr20) (fun h hW => ?_)
        have hW : HW (mkw c0 c1 c2 r20.2 c4 c5 c6 c7 c8 c9 c10 c11 c12 c13) d h := hW
        refine en_segs [(110, .istore_n 3, []), (111, .aload_n 0, [])] (by decide +kernel) (y := (112, [some (.ref a0), some (.ref a1), some (.int p2), some (.int r20.1)], [.ref a0], h)) rfl ?_
        refine en_get (by decide +kernel : u_at kl_18 112 = some (.getfield 9, [2, 0])) hW ha0 (by decide) rfl ?_
        refine en_get (by decide +kernel : u_at kl_18 115 = some (.getfield 36, [3, 7])) hW k19 (by decide) rfl ?_
        refine en_if_ne (by decide +kernel : u_at kl_18 118 = some (.ifCond .ne 10, [128])) (fun b21 => ?_) (fun b21 => ?_)
        · replace hF := i_pos b21 hF
          refine en_segs [(121, .aload_n 0, []), (122, .aload_n 1, []), (123, .iload_n 2, []), (124, .iload_n 3, [])] (by decide +kernel) (y := (125, [some (.ref a0), some (.ref a1), some (.int p2), some (.int r20.1)], [.int r20.1, .int p2, .ref a1, .ref a0], h)) rfl ?_
          obtain ⟨r22, hr22, hF⟩ := ob_some hF
          refine en_vv (r := []) (by decide +kernel : u_at kl_18 125 = some (.invokevirtual 79, [19, 3, 2])) hW ha0 rfl rfl (Nat.le_of_ble_eq_true rfl) (e_19 (D := D) (by omega) hW ha0 ha1 hr22) (fun h hW => ?_)
          have hW : HW (mkw c0 r22.1 c2 r22.2 c4 c5 c6 c7 c8 c9 c10 c11 c12 c13) d h := hW
          obtain rfl := Option.some.inj hF
          refine en_fg (fg_k (fg_k (fg_k (fg_d fg_0)))) ?_
          exact j9 _ hW
        · replace hF := i_neg b21 hF
          obtain rfl := Option.some.inj hF
          refine en_fg (fg_k (fg_k (fg_k (fg_d fg_0)))) ?_
          exact j9 _ hW
def G_16 (c1 : Cl) (c2 : Cl) (c3 : Cl) (a0 : Nat) (a1 : Nat) (lab : Nat) (xs : List Int32) (ys : List Int64) (zs : List Nat) : Option (Cl × Cl × Cl) := match lab, xs, ys, zs with
  | 0, [], [], [] =>
    F_28 c3 (cR c2 0 a0) 0 >>= fun r20 =>
    some (c1, c2, r20)
  | 1, [x2, x3], [], [] =>
    if 40 ≤ x2 then
    G_16 c1 c2 c3 a0 a1 2 [] [] []
    else
    ((if x3 = 12 then
    some 1
    else
    some 0) : Option (Int32)) >>= fun (t7 : Int32) =>
    ((if x2 = 0 then
    some 1
    else
    some 0) : Option (Int32)) >>= fun (t9 : Int32) =>
    if t7 = t9 then
    F_17 c1 c2 a0 a1 x3 >>= fun r12 =>
    if r12 = 0 then
    G_16 c1 c2 c3 a0 a1 2 [] [] []
    else
    F_31 c3 (cR c2 0 a0) >>= fun r15 =>
    F_18 c1 c2 r15 a0 a1 x3 >>= fun r16 =>
    some (r16.1, r16.2.1, r16.2.2)
    else
    G_16 c1 c2 c3 a0 a1 2 [] [] []
  | 2, [], [], [] =>
    F_28 c3 (cR c2 0 a0) 4 >>= fun r22 =>
    some (c1, c2, r22)
  | _, _, _, _ => none
partial_fixpoint
set_option maxRecDepth 100000 in
set_option maxHeartbeats 4000000 in
theorem g_16 {D : Nat} (hD : 6 ≤ D + 1) {c0 c1 c2 c3 c4 c5 c6 c7 c8 c9 c10 c11 c12 c13 : Cl} {d : Ad} {a0 : Nat} {a1 : Nat} (ha0 : aK d a0 = (0, 2, 0)) (ha1 : aK d a1 = (0, 1, 0)) : ∀ (lab : Nat) (xs : List Int32) (ys : List Int64) (zs : List Nat) (r : (Cl × Cl × Cl)), G_16 c1 c2 c3 a0 a1 lab xs ys zs = some r →
    (∀ (_ : Unit), lab = 0 → xs = [] → ys = [] → zs = [] → ∀ h : UH, HW (mkw c0 c1 c2 c3 c4 c5 c6 c7 c8 c9 c10 c11 c12 c13) d h → ∀ QQ : UR → Prop, (∀ h' : UH, HW (mkw c0 r.1 r.2.1 r.2.2 c4 c5 c6 c7 c8 c9 c10 c11 c12 c13) d h' → QQ (none, h')) → Ends (EX D) (u_at kl_16) (24, [some (.ref a0), none, none, none], [], h) QQ) ∧
    (∀ (x2 : Int32) (x3 : Int32), lab = 1 → xs = [x2, x3] → ys = [] → zs = [] → ∀ h : UH, HW (mkw c0 c1 c2 c3 c4 c5 c6 c7 c8 c9 c10 c11 c12 c13) d h → ∀ QQ : UR → Prop, (∀ h' : UH, HW (mkw c0 r.1 r.2.1 r.2.2 c4 c5 c6 c7 c8 c9 c10 c11 c12 c13) d h' → QQ (none, h')) → Ends (EX D) (u_at kl_16) (35, [some (.ref a0), some (.ref a1), some (.int x2), some (.int x3)], [], h) QQ) ∧
    (∀ (_ : Unit), lab = 2 → xs = [] → ys = [] → zs = [] → ∀ h : UH, HW (mkw c0 c1 c2 c3 c4 c5 c6 c7 c8 c9 c10 c11 c12 c13) d h → ∀ QQ : UR → Prop, (∀ h' : UH, HW (mkw c0 r.1 r.2.1 r.2.2 c4 c5 c6 c7 c8 c9 c10 c11 c12 c13) d h' → QQ (none, h')) → Ends (EX D) (u_at kl_16) (73, [some (.ref a0), none, none, none], [], h) QQ) := by
  refine G_16.partial_correctness _ _ _ _ _ (motive := fun lab xs ys zs r =>
    (∀ (_ : Unit), lab = 0 → xs = [] → ys = [] → zs = [] → ∀ h : UH, HW (mkw c0 c1 c2 c3 c4 c5 c6 c7 c8 c9 c10 c11 c12 c13) d h → ∀ QQ : UR → Prop, (∀ h' : UH, HW (mkw c0 r.1 r.2.1 r.2.2 c4 c5 c6 c7 c8 c9 c10 c11 c12 c13) d h' → QQ (none, h')) → Ends (EX D) (u_at kl_16) (24, [some (.ref a0), none, none, none], [], h) QQ) ∧
    (∀ (x2 : Int32) (x3 : Int32), lab = 1 → xs = [x2, x3] → ys = [] → zs = [] → ∀ h : UH, HW (mkw c0 c1 c2 c3 c4 c5 c6 c7 c8 c9 c10 c11 c12 c13) d h → ∀ QQ : UR → Prop, (∀ h' : UH, HW (mkw c0 r.1 r.2.1 r.2.2 c4 c5 c6 c7 c8 c9 c10 c11 c12 c13) d h' → QQ (none, h')) → Ends (EX D) (u_at kl_16) (35, [some (.ref a0), some (.ref a1), some (.int x2), some (.int x3)], [], h) QQ) ∧
    (∀ (_ : Unit), lab = 2 → xs = [] → ys = [] → zs = [] → ∀ h : UH, HW (mkw c0 c1 c2 c3 c4 c5 c6 c7 c8 c9 c10 c11 c12 c13) d h → ∀ QQ : UR → Prop, (∀ h' : UH, HW (mkw c0 r.1 r.2.1 r.2.2 c4 c5 c6 c7 c8 c9 c10 c11 c12 c13) d h' → QQ (none, h')) → Ends (EX D) (u_at kl_16) (73, [some (.ref a0), none, none, none], [], h) QQ)) ?_
  intro G ih lab xs ys zs r hF
  refine ⟨?_, ?_, ?_⟩
  · intro _ e1 e2 e3 e4 h hW QQ hQ
    subst e1 e2 e3 e4
    refine en_segs [(24, .aload_n 0, [])] (by decide +kernel) (y := (25, [some (.ref a0), none, none, none], [.ref a0], h)) rfl ?_
    have k19 : aK d (cR c2 0 a0) = (0, 3, 0) := wf_obj hW ha0 (by decide) rfl
    refine en_get (by decide +kernel : u_at kl_16 25 = some (.getfield 9, [2, 0])) hW ha0 (by decide) rfl ?_
    refine en_segs [(28, .iconst 0, [])] (by decide +kernel) (y := (29, [some (.ref a0), none, none, none], [.int 0, .ref (cR c2 0 a0)], h)) rfl ?_
    obtain ⟨r20, hr20, hF⟩ := ob_some hF
    refine en_vv (r := []) (by decide +kernel : u_at kl_16 29 = some (.invokevirtual 44, [28, 1, 3])) hW k19 rfl rfl (Nat.le_of_ble_eq_true rfl) (e_28 (D := D) (by omega) hW k19 hr20) (fun h hW => ?_)
    have hW : HW (mkw c0 c1 c2 r20 c4 c5 c6 c7 c8 c9 c10 c11 c12 c13) d h := hW
    refine en_segs [(32, .goto 65, [97])] (by decide +kernel) (y := (97, [some (.ref a0), none, none, none], [], h)) rfl ?_
    obtain rfl := Option.some.inj hF
    exact en_ret (by decide +kernel : u_at kl_16 97 = some (.return_, [])) rfl (hQ _ hW)
  · intro x2 x3 e1 e2 e3 e4 h hW QQ hQ
    subst e1 e2 e3 e4
    refine en_segs [(35, .iload_n 2, []), (36, .bipush 40, [])] (by decide +kernel) (y := (38, [some (.ref a0), some (.ref a1), some (.int x2), some (.int x3)], [.int 40, .int x2], h)) rfl ?_
    refine en_ic_ge (by decide +kernel : u_at kl_16 38 = some (.if_icmp .ge 35, [73])) (fun b6 => ?_) (fun b6 => ?_)
    · replace hF := i_pos b6 hF
      refine en_fg (fg_k (fg_d (fg_d (fg_d fg_0)))) ?_
      exact (ih _ _ _ _ _ hF).2.2 () rfl rfl rfl rfl  _ hW _ hQ
    · replace hF := i_neg b6 hF
      refine en_segs [(41, .iload_n 3, []), (42, .bipush 12, [])] (by decide +kernel) (y := (44, [some (.ref a0), some (.ref a1), some (.int x2), some (.int x3)], [.int 12, .int x3], h)) rfl ?_
      obtain ⟨t7, hX, hK⟩ := ob_some hF
      have j8 : ∀ h : UH, HW (mkw c0 c1 c2 c3 c4 c5 c6 c7 c8 c9 c10 c11 c12 c13) d h → Ends (EX D) (u_at kl_16) (52, [some (.ref a0), some (.ref a1), some (.int x2), some (.int x3)], [.int t7], h) QQ := by
        intro h hW
        have hF := hK
        refine en_segs [(52, .iload_n 2, [])] (by decide +kernel) (y := (53, [some (.ref a0), some (.ref a1), some (.int x2), some (.int x3)], [.int x2, .int t7], h)) rfl ?_
        obtain ⟨t9, hX, hK⟩ := ob_some hF
        have j10 : ∀ h : UH, HW (mkw c0 c1 c2 c3 c4 c5 c6 c7 c8 c9 c10 c11 c12 c13) d h → Ends (EX D) (u_at kl_16) (61, [some (.ref a0), some (.ref a1), some (.int x2), some (.int x3)], [.int t9, .int t7], h) QQ := by
          intro h hW
          have hF := hK
          refine en_ic_ne (by decide +kernel : u_at kl_16 61 = some (.if_icmp .ne 12, [73])) (fun b11 => ?_) (fun b11 => ?_)
          · replace hF := i_pos b11 hF
            refine en_segs [(64, .aload_n 0, []), (65, .aload_n 1, []), (66, .iload_n 3, [])] (by decide +kernel) (y := (67, [some (.ref a0), some (.ref a1), some (.int x2), some (.int x3)], [.int x3, .ref a1, .ref a0], h)) rfl ?_
            obtain ⟨r12, hr12, hF⟩ := ob_some hF
            refine en_vi (r := []) (by decide +kernel : u_at kl_16 67 = some (.invokevirtual 47, [17, 2, 2])) hW ha0 rfl rfl (Nat.le_of_ble_eq_true rfl) (e_17 (D := D) (by omega) hW ha0 ha1 hr12) (fun h' q => ?_)
            subst q
            refine en_if_ne (by decide +kernel : u_at kl_16 70 = some (.ifCond .ne 14, [84])) (fun b13 => ?_) (fun b13 => ?_)
            · replace hF := i_pos b13 hF
              refine en_fg (fg_k (fg_d (fg_d (fg_d fg_0)))) ?_
              exact (ih _ _ _ _ _ hF).2.2 () rfl rfl rfl rfl  _ hW _ hQ
            · replace hF := i_neg b13 hF
              refine en_segs [(84, .aload_n 0, [])] (by decide +kernel) (y := (85, [some (.ref a0), some (.ref a1), some (.int x2), some (.int x3)], [.ref a0], h)) rfl ?_
              have k14 : aK d (cR c2 0 a0) = (0, 3, 0) := wf_obj hW ha0 (by decide) rfl
              refine en_get (by decide +kernel : u_at kl_16 85 = some (.getfield 9, [2, 0])) hW ha0 (by decide) rfl ?_
              obtain ⟨r15, hr15, hF⟩ := ob_some hF
              refine en_vv (r := []) (by decide +kernel : u_at kl_16 88 = some (.invokevirtual 51, [31, 0, 3])) hW k14 rfl rfl (Nat.le_of_ble_eq_true rfl) (e_31 (D := D) (by omega) hW k14 hr15) (fun h hW => ?_)
              have hW : HW (mkw c0 c1 c2 r15 c4 c5 c6 c7 c8 c9 c10 c11 c12 c13) d h := hW
              refine en_segs [(91, .aload_n 0, []), (92, .aload_n 1, []), (93, .iload_n 3, [])] (by decide +kernel) (y := (94, [some (.ref a0), some (.ref a1), some (.int x2), some (.int x3)], [.int x3, .ref a1, .ref a0], h)) rfl ?_
              obtain ⟨r16, hr16, hF⟩ := ob_some hF
              refine en_vv (r := []) (by decide +kernel : u_at kl_16 94 = some (.invokevirtual 54, [18, 2, 2])) hW ha0 rfl rfl (Nat.le_of_ble_eq_true rfl) (e_18 (D := D) (by omega) hW ha0 ha1 hr16) (fun h hW => ?_)
              have hW : HW (mkw c0 r16.1 r16.2.1 r16.2.2 c4 c5 c6 c7 c8 c9 c10 c11 c12 c13) d h := hW
              obtain rfl := Option.some.inj hF
              exact en_ret (by decide +kernel : u_at kl_16 97 = some (.return_, [])) rfl (hQ _ hW)
          · replace hF := i_neg b11 hF
            refine en_fg (fg_k (fg_d (fg_d (fg_d fg_0)))) ?_
            exact (ih _ _ _ _ _ hF).2.2 () rfl rfl rfl rfl  _ hW _ hQ
        have hF := hX
        refine en_if_ne (by decide +kernel : u_at kl_16 53 = some (.ifCond .ne 7, [60])) (fun b17 => ?_) (fun b17 => ?_)
        · replace hF := i_pos b17 hF
          refine en_segs [(56, .iconst 1, []), (57, .goto 4, [61])] (by decide +kernel) (y := (61, [some (.ref a0), some (.ref a1), some (.int x2), some (.int x3)], [.int 1, .int t7], h)) rfl ?_
          obtain rfl := Option.some.inj hF
          exact j10 _ hW
        · replace hF := i_neg b17 hF
          refine en_segs [(60, .iconst 0, [])] (by decide +kernel) (y := (61, [some (.ref a0), some (.ref a1), some (.int x2), some (.int x3)], [.int 0, .int t7], h)) rfl ?_
          obtain rfl := Option.some.inj hF
          exact j10 _ hW
      have hF := hX
      refine en_ic_ne (by decide +kernel : u_at kl_16 44 = some (.if_icmp .ne 7, [51])) (fun b18 => ?_) (fun b18 => ?_)
      · replace hF := i_pos b18 hF
        refine en_segs [(47, .iconst 1, []), (48, .goto 4, [52])] (by decide +kernel) (y := (52, [some (.ref a0), some (.ref a1), some (.int x2), some (.int x3)], [.int 1], h)) rfl ?_
        obtain rfl := Option.some.inj hF
        exact j8 _ hW
      · replace hF := i_neg b18 hF
        refine en_segs [(51, .iconst 0, [])] (by decide +kernel) (y := (52, [some (.ref a0), some (.ref a1), some (.int x2), some (.int x3)], [.int 0], h)) rfl ?_
        obtain rfl := Option.some.inj hF
        exact j8 _ hW
  · intro _ e1 e2 e3 e4 h hW QQ hQ
    subst e1 e2 e3 e4
    refine en_segs [(73, .aload_n 0, [])] (by decide +kernel) (y := (74, [some (.ref a0), none, none, none], [.ref a0], h)) rfl ?_
    have k21 : aK d (cR c2 0 a0) = (0, 3, 0) := wf_obj hW ha0 (by decide) rfl
    refine en_get (by decide +kernel : u_at kl_16 74 = some (.getfield 9, [2, 0])) hW ha0 (by decide) rfl ?_
    refine en_segs [(77, .iconst 4, [])] (by decide +kernel) (y := (78, [some (.ref a0), none, none, none], [.int 4, .ref (cR c2 0 a0)], h)) rfl ?_
    obtain ⟨r22, hr22, hF⟩ := ob_some hF
    refine en_vv (r := []) (by decide +kernel : u_at kl_16 78 = some (.invokevirtual 44, [28, 1, 3])) hW k21 rfl rfl (Nat.le_of_ble_eq_true rfl) (e_28 (D := D) (by omega) hW k21 hr22) (fun h hW => ?_)
    have hW : HW (mkw c0 c1 c2 r22 c4 c5 c6 c7 c8 c9 c10 c11 c12 c13) d h := hW
    refine en_segs [(81, .goto 16, [97])] (by decide +kernel) (y := (97, [some (.ref a0), none, none, none], [], h)) rfl ?_
    obtain rfl := Option.some.inj hF
    exact en_ret (by decide +kernel : u_at kl_16 97 = some (.return_, [])) rfl (hQ _ hW)
def F_16 (c1 : Cl) (c2 : Cl) (c3 : Cl) (a0 : Nat) (a1 : Nat) (p2 : Int32) : Option (Cl × Cl × Cl) :=
  F_29 c3 (cR c2 0 a0) >>= fun r2 =>
  if r2 = 0 then
  G_16 c1 c2 c3 a0 a1 1 [p2, r2] [] []
  else
  if r2 < 12 then
  G_16 c1 c2 c3 a0 a1 0 [] [] []
  else
  if r2 ≤ 17 then
  G_16 c1 c2 c3 a0 a1 1 [p2, r2] [] []
  else
  G_16 c1 c2 c3 a0 a1 0 [] [] []
set_option maxRecDepth 100000 in
set_option maxHeartbeats 4000000 in
/-- HeadCounts$HouseReader.readClause -/
theorem e_16 {D : Nat} {c0 c1 c2 c3 c4 c5 c6 c7 c8 c9 c10 c11 c12 c13 : Cl} {d : Ad} {h : UH} {a0 : Nat} {a1 : Nat} {p2 : Int32} {r : (Cl × Cl × Cl)} (hD : 6 ≤ D) (hW : HW (mkw c0 c1 c2 c3 c4 c5 c6 c7 c8 c9 c10 c11 c12 c13) d h) (ha0 : aK d a0 = (0, 2, 0)) (ha1 : aK d a1 = (0, 1, 0)) (hF : F_16 c1 c2 c3 a0 a1 p2 = some r) : ∃ q, EX D 16 [.ref a0, .ref a1, .int p2] h q ∧ q.1 = none ∧ HW (mkw c0 r.1 r.2.1 r.2.2 c4 c5 c6 c7 c8 c9 c10 c11 c12 c13) d q.2 := by
  obtain ⟨D, rfl⟩ : ∃ E, D = E + 1 := ⟨D - 1, by omega⟩
  unfold F_16 at hF
  refine ex_in (kl := kl_16) (nL := 4) rfl (by decide +kernel) (Nat.le_of_ble_eq_true rfl) ?_
  obtain ⟨QQ, hQQ⟩ : ∃ QQ : UR → Prop, QQ = (fun q : UR => q.1 = none ∧ HW (mkw c0 r.1 r.2.1 r.2.2 c4 c5 c6 c7 c8 c9 c10 c11 c12 c13) d q.2) := ⟨_, rfl⟩
  rw [← hQQ]
  have hQ : ∀ h' : UH, HW (mkw c0 r.1 r.2.1 r.2.2 c4 c5 c6 c7 c8 c9 c10 c11 c12 c13) d h' → QQ (none, h') := fun h' p => by rw [hQQ]; exact ⟨rfl, p⟩
  clear hQQ
  show Ends (EX D) (u_at kl_16) (0, [some (.ref a0), some (.ref a1), some (.int p2), none], [], h) QQ
  refine en_segs [(0, .aload_n 0, [])] (by decide +kernel) (y := (1, [some (.ref a0), some (.ref a1), some (.int p2), none], [.ref a0], h)) rfl ?_
  have k1 : aK d (cR c2 0 a0) = (0, 3, 0) := wf_obj hW ha0 (by decide) rfl
  refine en_get (by decide +kernel : u_at kl_16 1 = some (.getfield 9, [2, 0])) hW ha0 (by decide) rfl ?_
  obtain ⟨r2, hr2, hF⟩ := ob_some hF
  refine en_vi (r := []) (by decide +kernel : u_at kl_16 4 = some (.invokevirtual 40, [29, 0, 3])) hW k1 rfl rfl (Nat.le_of_ble_eq_true rfl) (e_29 (D := D) (by omega) hW k1 hr2) (fun h' q => ?_)
  subst q
  refine en_segs [(7, .istore_n 3, []), (8, .iload_n 3, [])] (by decide +kernel) (y := (9, [some (.ref a0), some (.ref a1), some (.int p2), some (.int r2)], [.int r2], h)) rfl ?_
  refine en_if_eq (by decide +kernel : u_at kl_16 9 = some (.ifCond .eq 26, [35])) (fun b3 => ?_) (fun b3 => ?_)
  · replace hF := i_pos b3 hF
    exact (g_16 (D := D) hD ha0 ha1 _ _ _ _ _ hF).2.1 _ _ rfl rfl rfl rfl  _ hW _ hQ
  · replace hF := i_neg b3 hF
    refine en_segs [(12, .iload_n 3, []), (13, .bipush 12, [])] (by decide +kernel) (y := (15, [some (.ref a0), some (.ref a1), some (.int p2), some (.int r2)], [.int 12, .int r2], h)) rfl ?_
    refine en_ic_lt (by decide +kernel : u_at kl_16 15 = some (.if_icmp .lt 9, [24])) (fun b4 => ?_) (fun b4 => ?_)
    · replace hF := i_pos b4 hF
      refine en_fg (fg_k (fg_d (fg_d (fg_d fg_0)))) ?_
      exact (g_16 (D := D) hD ha0 ha1 _ _ _ _ _ hF).1 () rfl rfl rfl rfl  _ hW _ hQ
    · replace hF := i_neg b4 hF
      refine en_segs [(18, .iload_n 3, []), (19, .bipush 17, [])] (by decide +kernel) (y := (21, [some (.ref a0), some (.ref a1), some (.int p2), some (.int r2)], [.int 17, .int r2], h)) rfl ?_
      refine en_ic_le (by decide +kernel : u_at kl_16 21 = some (.if_icmp .le 14, [35])) (fun b5 => ?_) (fun b5 => ?_)
      · replace hF := i_pos b5 hF
        exact (g_16 (D := D) hD ha0 ha1 _ _ _ _ _ hF).2.1 _ _ rfl rfl rfl rfl  _ hW _ hQ
      · replace hF := i_neg b5 hF
        refine en_fg (fg_k (fg_d (fg_d (fg_d fg_0)))) ?_
        exact (g_16 (D := D) hD ha0 ha1 _ _ _ _ _ hF).1 () rfl rfl rfl rfl  _ hW _ hQ
