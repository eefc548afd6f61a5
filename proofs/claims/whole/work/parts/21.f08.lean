def G_275 (a0 : Nat) (lab : Nat) (xs : List Int32) (ys : List Int64) (zs : List Nat) (c12 : Cl) : Option Cl := match lab, xs, ys, zs with
  | 0, [x2], [], [] =>
    if 6 ≤ x2 then
    G_275 a0 1 [0] [] [] c12
    else
    ald (cA c12 24 a0) 6 x2 >>= fun v3 =>
    ast c12 32 a0 6 x2 v3 >>= fun c12_4 =>
    G_275 a0 0 [x2 + 1] [] [] c12_4
  | 1, [x2], [], [] =>
    ald (cA c12 20 a0) 221 3 >>= fun v5 =>
    if v5 ≤ x2 then
    some c12
    else
    F_259 c12 a0 x2 >>= fun r7 =>
    ast c12 33 a0 6 x2 r7 >>= fun c12_8 =>
    G_275 a0 1 [x2 + 1] [] [] c12_8
  | _, _, _, _ => none
partial_fixpoint
set_option maxRecDepth 100000 in
set_option maxHeartbeats 4000000 in
theorem g_275 {D : Nat} (hD : 4 ≤ D + 1) {c0 c1 c2 c3 c4 c5 c6 c7 c8 c9 c10 c11 c13 : Cl} {d : Ad} {a0 : Nat} (ha0 : aK d a0 = (0, 12, 0)) : ∀ (lab : Nat) (xs : List Int32) (ys : List Int64) (zs : List Nat) (c12 : Cl) (r : Cl), G_275 a0 lab xs ys zs c12 = some r →
    (∀ (x2 : Int32), lab = 0 → xs = [x2] → ys = [] → zs = [] → ∀ h : UH, HW (mkw c0 c1 c2 c3 c4 c5 c6 c7 c8 c9 c10 c11 c12 c13) d h → ∀ QQ : UR → Prop, (∀ h' : UH, HW (mkw c0 c1 c2 c3 c4 c5 c6 c7 c8 c9 c10 c11 r c13) d h' → QQ (none, h')) → Ends (EX D) (u_at kl_275) (7, [some (.ref a0), none, some (.int x2)], [], h) QQ) ∧
    (∀ (x2 : Int32), lab = 1 → xs = [x2] → ys = [] → zs = [] → ∀ h : UH, HW (mkw c0 c1 c2 c3 c4 c5 c6 c7 c8 c9 c10 c11 c12 c13) d h → ∀ QQ : UR → Prop, (∀ h' : UH, HW (mkw c0 c1 c2 c3 c4 c5 c6 c7 c8 c9 c10 c11 r c13) d h' → QQ (none, h')) → Ends (EX D) (u_at kl_275) (33, [some (.ref a0), none, some (.int x2)], [], h) QQ) := by
  refine G_275.partial_correctness _ (motive := fun lab xs ys zs c12 r =>
    (∀ (x2 : Int32), lab = 0 → xs = [x2] → ys = [] → zs = [] → ∀ h : UH, HW (mkw c0 c1 c2 c3 c4 c5 c6 c7 c8 c9 c10 c11 c12 c13) d h → ∀ QQ : UR → Prop, (∀ h' : UH, HW (mkw c0 c1 c2 c3 c4 c5 c6 c7 c8 c9 c10 c11 r c13) d h' → QQ (none, h')) → Ends (EX D) (u_at kl_275) (7, [some (.ref a0), none, some (.int x2)], [], h) QQ) ∧
    (∀ (x2 : Int32), lab = 1 → xs = [x2] → ys = [] → zs = [] → ∀ h : UH, HW (mkw c0 c1 c2 c3 c4 c5 c6 c7 c8 c9 c10 c11 c12 c13) d h → ∀ QQ : UR → Prop, (∀ h' : UH, HW (mkw c0 c1 c2 c3 c4 c5 c6 c7 c8 c9 c10 c11 r c13) d h' → QQ (none, h')) → Ends (EX D) (u_at kl_275) (33, [some (.ref a0), none, some (.int x2)], [], h) QQ)) ?_
  intro G ih lab xs ys zs c12 r hF
  refine ⟨?_, ?_⟩
  · intro x2 e1 e2 e3 e4 h hW QQ hQ
    subst e1 e2 e3 e4
    refine en_segs [(7, .iload_n 2, []), (8, .bipush 6, [])] (by decide +kernel) (y := (10, [some (.ref a0), none, some (.int x2)], [.int 6, .int x2], h)) rfl ?_
    refine en_ic_ge (by decide +kernel : u_at kl_275 10 = some (.if_icmp .ge 21, [31])) (fun b2 => ?_) (fun b2 => ?_)
    · replace hF := i_pos b2 hF
      refine en_segs [(31, .iconst 0, []), (32, .istore_n 2, [])] (by decide +kernel) (y := (33, [some (.ref a0), none, some (.int 0)], [], h)) rfl ?_
      exact (ih _ _ _ _ _ _ hF).2 _ rfl rfl rfl rfl  _ hW _ hQ
    · replace hF := i_neg b2 hF
      refine en_segs [(13, .aload_n 0, [])] (by decide +kernel) (y := (14, [some (.ref a0), none, some (.int x2)], [.ref a0], h)) rfl ?_
      refine en_get (by decide +kernel : u_at kl_275 14 = some (.getfield 67, [12, 32])) hW ha0 (by decide) rfl ?_
      refine en_segs [(17, .iload_n 2, []), (18, .aload_n 0, [])] (by decide +kernel) (y := (19, [some (.ref a0), none, some (.int x2)], [.ref a0, .int x2, .ref (aP d 12 32 a0)], h)) rfl ?_
      refine en_get (by decide +kernel : u_at kl_275 19 = some (.getfield 45, [12, 24])) hW ha0 (by decide) rfl ?_
      refine en_segs [(22, .iload_n 2, [])] (by decide +kernel) (y := (23, [some (.ref a0), none, some (.int x2)], [.int x2, .ref (aP d 12 24 a0), .int x2, .ref (aP d 12 32 a0)], h)) rfl ?_
      obtain ⟨v3, hv3, hF⟩ := ob_some hF
      refine en_iald (by decide +kernel : u_at kl_275 23 = some (.iaload, [])) hW ha0 rfl (by decide) hv3 ?_
      obtain ⟨c12_4, hc12_4, hF⟩ := ob_some hF
      refine en_iast (by decide +kernel : u_at kl_275 24 = some (.iastore, [])) hW ha0 rfl (by decide) hc12_4 (fun h hW => ?_)
      have hW : HW (mkw c0 c1 c2 c3 c4 c5 c6 c7 c8 c9 c10 c11 c12_4 c13) d h := hW
      refine en_segs [(25, .iinc 2 1, []), (28, .goto (-21), [7])] (by decide +kernel) (y := (7, [some (.ref a0), none, some (.int (x2 + 1))], [], h)) rfl ?_
      exact (ih _ _ _ _ _ _ hF).1 _ rfl rfl rfl rfl  _ hW _ hQ
  · intro x2 e1 e2 e3 e4 h hW QQ hQ
    subst e1 e2 e3 e4
    refine en_segs [(33, .iload_n 2, []), (34, .aload_n 0, [])] (by decide +kernel) (y := (35, [some (.ref a0), none, some (.int x2)], [.ref a0, .int x2], h)) rfl ?_
    refine en_get (by decide +kernel : u_at kl_275 35 = some (.getfield 39, [12, 20])) hW ha0 (by decide) rfl ?_
    refine en_segs [(38, .iconst 3, [])] (by decide +kernel) (y := (39, [some (.ref a0), none, some (.int x2)], [.int 3, .ref (aP d 12 20 a0), .int x2], h)) rfl ?_
    obtain ⟨v5, hv5, hF⟩ := ob_some hF
    refine en_iald (by decide +kernel : u_at kl_275 39 = some (.iaload, [])) hW ha0 rfl (by decide) hv5 ?_
    refine en_ic_ge (by decide +kernel : u_at kl_275 40 = some (.if_icmp .ge 20, [60])) (fun b6 => ?_) (fun b6 => ?_)
    · replace hF := i_pos b6 hF
      obtain rfl := Option.some.inj hF
      exact en_ret (by decide +kernel : u_at kl_275 60 = some (.return_, [])) rfl (hQ _ hW)
    · replace hF := i_neg b6 hF
      refine en_segs [(43, .aload_n 0, [])] (by decide +kernel) (y := (44, [some (.ref a0), none, some (.int x2)], [.ref a0], h)) rfl ?_
      refine en_get (by decide +kernel : u_at kl_275 44 = some (.getfield 70, [12, 33])) hW ha0 (by decide) rfl ?_
      refine en_segs [(47, .iload_n 2, []), (48, .aload_n 0, []), (49, .iload_n 2, [])] (by decide +kernel) (y := (50, [some (.ref a0), none, some (.int x2)], [.int x2, .ref a0, .int x2, .ref (aP d 12 33 a0)], h)) rfl ?_
      obtain ⟨r7, hr7, hF⟩ := ob_some hF
      refine en_vi (r := [.int x2, .ref (aP d 12 33 a0)]) (by decide +kernel : u_at kl_275 50 = some (.invokevirtual 440, [259, 1, 12])) hW ha0 rfl rfl (Nat.le_of_ble_eq_true rfl) (e_259 (D := D) (by omega) hW ha0 hr7) (fun h' q => ?_)
      subst q
      obtain ⟨c12_8, hc12_8, hF⟩ := ob_some hF
      refine en_iast (by decide +kernel : u_at kl_275 53 = some (.iastore, [])) hW ha0 rfl (by decide) hc12_8 (fun h hW => ?_)
      have hW : HW (mkw c0 c1 c2 c3 c4 c5 c6 c7 c8 c9 c10 c11 c12_8 c13) d h := hW
      refine en_segs [(54, .iinc 2 1, []), (57, .goto (-24), [33])] (by decide +kernel) (y := (33, [some (.ref a0), none, some (.int (x2 + 1))], [], h)) rfl ?_
      exact (ih _ _ _ _ _ _ hF).2 _ rfl rfl rfl rfl  _ hW _ hQ
def F_275 (c12 : Cl) (a0 : Nat) (p1 : Int32) : Option Cl :=
  F_255 c12 a0 p1 >>= fun r1 =>
  G_275 a0 0 [0] [] [] r1
set_option maxRecDepth 100000 in
set_option maxHeartbeats 4000000 in
/-- HeadCountsModel.begins -/
theorem e_275 {D : Nat} {c0 c1 c2 c3 c4 c5 c6 c7 c8 c9 c10 c11 c12 c13 : Cl} {d : Ad} {h : UH} {a0 : Nat} {p1 : Int32} {r : Cl} (hD : 4 ≤ D) (hW : HW (mkw c0 c1 c2 c3 c4 c5 c6 c7 c8 c9 c10 c11 c12 c13) d h) (ha0 : aK d a0 = (0, 12, 0)) (hF : F_275 c12 a0 p1 = some r) : ∃ q, EX D 275 [.ref a0, .int p1] h q ∧ q.1 = none ∧ HW (mkw c0 c1 c2 c3 c4 c5 c6 c7 c8 c9 c10 c11 r c13) d q.2 := by
  obtain ⟨D, rfl⟩ : ∃ E, D = E + 1 := ⟨D - 1, by omega⟩
  unfold F_275 at hF
  refine ex_in (kl := kl_275) (nL := 3) rfl (by decide +kernel) (Nat.le_of_ble_eq_true rfl) ?_
  obtain ⟨QQ, hQQ⟩ : ∃ QQ : UR → Prop, QQ = (fun q : UR => q.1 = none ∧ HW (mkw c0 c1 c2 c3 c4 c5 c6 c7 c8 c9 c10 c11 r c13) d q.2) := ⟨_, rfl⟩
  rw [← hQQ]
  have hQ : ∀ h' : UH, HW (mkw c0 c1 c2 c3 c4 c5 c6 c7 c8 c9 c10 c11 r c13) d h' → QQ (none, h') := fun h' p => by rw [hQQ]; exact ⟨rfl, p⟩
  clear hQQ
  show Ends (EX D) (u_at kl_275) (0, [some (.ref a0), some (.int p1), none], [], h) QQ
  refine en_segs [(0, .aload_n 0, []), (1, .iload_n 1, [])] (by decide +kernel) (y := (2, [some (.ref a0), some (.int p1), none], [.int p1, .ref a0], h)) rfl ?_
  obtain ⟨r1, hr1, hF⟩ := ob_some hF
  refine en_vv (r := []) (by decide +kernel : u_at kl_275 2 = some (.invokevirtual 434, [255, 1, 12])) hW ha0 rfl rfl (Nat.le_of_ble_eq_true rfl) (e_255 (D := D) (by omega) hW ha0 hr1) (fun h hW => ?_)
  have hW : HW (mkw c0 c1 c2 c3 c4 c5 c6 c7 c8 c9 c10 c11 r1 c13) d h := hW
  refine en_segs [(5, .iconst 0, []), (6, .istore_n 2, [])] (by decide +kernel) (y := (7, [some (.ref a0), some (.int p1), some (.int 0)], [], h)) rfl ?_
  refine en_fg (fg_k (fg_d (fg_k fg_0))) ?_
  exact (g_275 (D := D) hD ha0 _ _ _ _ _ _ hF).1 _ rfl rfl rfl rfl  _ hW _ hQ
def G_276 (c12 : Cl) (a0 : Nat) (lab : Nat) (xs : List Int32) (ys : List Int64) (zs : List Nat) : Option Int32 := match lab, xs, ys, zs with
  | 0, [x1], [], [] =>
    ald (cA c12 20 a0) 221 3 >>= fun v1 =>
    if v1 ≤ x1 then
    G_276 c12 a0 1 [0] [] []
    else
    F_259 c12 a0 x1 >>= fun r3 =>
    ald (cA c12 33 a0) 6 x1 >>= fun v4 =>
    if r3 = v4 then
    G_276 c12 a0 0 [x1 + 1] [] []
    else
    some 0
  | 1, [x1], [], [] =>
    ald (cA c12 20 a0) 221 0 >>= fun v6 =>
    if v6 ≤ x1 then
    some 1
    else
    F_258 c12 a0 x1 >>= fun r8 =>
    ald (cA c12 20 a0) 221 (82 + x1) >>= fun v9 =>
    if r8 ≤ v9 then
    G_276 c12 a0 1 [x1 + 1] [] []
    else
    some 0
  | _, _, _, _ => none
partial_fixpoint
set_option maxRecDepth 100000 in
set_option maxHeartbeats 4000000 in
theorem g_276 {D : Nat} (hD : 4 ≤ D + 1) {c0 c1 c2 c3 c4 c5 c6 c7 c8 c9 c10 c11 c12 c13 : Cl} {d : Ad} {a0 : Nat} (ha0 : aK d a0 = (0, 12, 0)) : ∀ (lab : Nat) (xs : List Int32) (ys : List Int64) (zs : List Nat) (r : Int32), G_276 c12 a0 lab xs ys zs = some r →
    (∀ (x1 : Int32), lab = 0 → xs = [x1] → ys = [] → zs = [] → ∀ h : UH, HW (mkw c0 c1 c2 c3 c4 c5 c6 c7 c8 c9 c10 c11 c12 c13) d h → ∀ QQ : UR → Prop, QQ (some (.int r), h) → Ends (EX D) (u_at kl_276) (2, [some (.ref a0), some (.int x1)], [], h) QQ) ∧
    (∀ (x1 : Int32), lab = 1 → xs = [x1] → ys = [] → zs = [] → ∀ h : UH, HW (mkw c0 c1 c2 c3 c4 c5 c6 c7 c8 c9 c10 c11 c12 c13) d h → ∀ QQ : UR → Prop, QQ (some (.int r), h) → Ends (EX D) (u_at kl_276) (36, [some (.ref a0), some (.int x1)], [], h) QQ) := by
  refine G_276.partial_correctness _ _ (motive := fun lab xs ys zs r =>
    (∀ (x1 : Int32), lab = 0 → xs = [x1] → ys = [] → zs = [] → ∀ h : UH, HW (mkw c0 c1 c2 c3 c4 c5 c6 c7 c8 c9 c10 c11 c12 c13) d h → ∀ QQ : UR → Prop, QQ (some (.int r), h) → Ends (EX D) (u_at kl_276) (2, [some (.ref a0), some (.int x1)], [], h) QQ) ∧
    (∀ (x1 : Int32), lab = 1 → xs = [x1] → ys = [] → zs = [] → ∀ h : UH, HW (mkw c0 c1 c2 c3 c4 c5 c6 c7 c8 c9 c10 c11 c12 c13) d h → ∀ QQ : UR → Prop, QQ (some (.int r), h) → Ends (EX D) (u_at kl_276) (36, [some (.ref a0), some (.int x1)], [], h) QQ)) ?_
  intro G ih lab xs ys zs r hF
  refine ⟨?_, ?_⟩
  · intro x1 e1 e2 e3 e4 h hW QQ hQ
    subst e1 e2 e3 e4
    refine en_segs [(2, .iload_n 1, []), (3, .aload_n 0, [])] (by decide +kernel) (y := (4, [some (.ref a0), some (.int x1)], [.ref a0, .int x1], h)) rfl ?_
    refine en_get (by decide +kernel : u_at kl_276 4 = some (.getfield 39, [12, 20])) hW ha0 (by decide) rfl ?_
    refine en_segs [(7, .iconst 3, [])] (by decide +kernel) (y := (8, [some (.ref a0), some (.int x1)], [.int 3, .ref (aP d 12 20 a0), .int x1], h)) rfl ?_
    obtain ⟨v1, hv1, hF⟩ := ob_some hF
    refine en_iald (by decide +kernel : u_at kl_276 8 = some (.iaload, [])) hW ha0 rfl (by decide) hv1 ?_
    refine en_ic_ge (by decide +kernel : u_at kl_276 9 = some (.if_icmp .ge 25, [34])) (fun b2 => ?_) (fun b2 => ?_)
    · replace hF := i_pos b2 hF
      refine en_segs [(34, .iconst 0, []), (35, .istore_n 1, [])] (by decide +kernel) (y := (36, [some (.ref a0), some (.int 0)], [], h)) rfl ?_
      exact (ih _ _ _ _ _ hF).2 _ rfl rfl rfl rfl  _ hW _ hQ
    · replace hF := i_neg b2 hF
      refine en_segs [(12, .aload_n 0, []), (13, .iload_n 1, [])] (by decide +kernel) (y := (14, [some (.ref a0), some (.int x1)], [.int x1, .ref a0], h)) rfl ?_
      obtain ⟨r3, hr3, hF⟩ := ob_some hF
      refine en_vi (r := []) (by decide +kernel : u_at kl_276 14 = some (.invokevirtual 440, [259, 1, 12])) hW ha0 rfl rfl (Nat.le_of_ble_eq_true rfl) (e_259 (D := D) (by omega) hW ha0 hr3) (fun h' q => ?_)
      subst q
      refine en_segs [(17, .aload_n 0, [])] (by decide +kernel) (y := (18, [some (.ref a0), some (.int x1)], [.ref a0, .int r3], h)) rfl ?_
      refine en_get (by decide +kernel : u_at kl_276 18 = some (.getfield 70, [12, 33])) hW ha0 (by decide) rfl ?_
      refine en_segs [(21, .iload_n 1, [])] (by decide +kernel) (y := (22, [some (.ref a0), some (.int x1)], [.int x1, .ref (aP d 12 33 a0), .int r3], h)) rfl ?_
      obtain ⟨v4, hv4, hF⟩ := ob_some hF
      refine en_iald (by decide +kernel : u_at kl_276 22 = some (.iaload, [])) hW ha0 rfl (by decide) hv4 ?_
      refine en_ic_eq (by decide +kernel : u_at kl_276 23 = some (.if_icmp .eq 5, [28])) (fun b5 => ?_) (fun b5 => ?_)
      · replace hF := i_pos b5 hF
        refine en_segs [(28, .iinc 1 1, []), (31, .goto (-29), [2])] (by decide +kernel) (y := (2, [some (.ref a0), some (.int (x1 + 1))], [], h)) rfl ?_
        exact (ih _ _ _ _ _ hF).1 _ rfl rfl rfl rfl  _ hW _ hQ
      · replace hF := i_neg b5 hF
        refine en_segs [(26, .iconst 0, [])] (by decide +kernel) (y := (27, [some (.ref a0), some (.int x1)], [.int 0], h)) rfl ?_
        obtain rfl := Option.some.inj hF
        exact en_ret (by decide +kernel : u_at kl_276 27 = some (.ireturn, [1])) rfl (hQ)
  · intro x1 e1 e2 e3 e4 h hW QQ hQ
    subst e1 e2 e3 e4
    refine en_segs [(36, .iload_n 1, []), (37, .aload_n 0, [])] (by decide +kernel) (y := (38, [some (.ref a0), some (.int x1)], [.ref a0, .int x1], h)) rfl ?_
    refine en_get (by decide +kernel : u_at kl_276 38 = some (.getfield 39, [12, 20])) hW ha0 (by decide) rfl ?_
    refine en_segs [(41, .iconst 0, [])] (by decide +kernel) (y := (42, [some (.ref a0), some (.int x1)], [.int 0, .ref (aP d 12 20 a0), .int x1], h)) rfl ?_
    obtain ⟨v6, hv6, hF⟩ := ob_some hF
    refine en_iald (by decide +kernel : u_at kl_276 42 = some (.iaload, [])) hW ha0 rfl (by decide) hv6 ?_
    refine en_ic_ge (by decide +kernel : u_at kl_276 43 = some (.if_icmp .ge 28, [71])) (fun b7 => ?_) (fun b7 => ?_)
    · replace hF := i_pos b7 hF
      refine en_segs [(71, .iconst 1, [])] (by decide +kernel) (y := (72, [some (.ref a0), some (.int x1)], [.int 1], h)) rfl ?_
      obtain rfl := Option.some.inj hF
      exact en_ret (by decide +kernel : u_at kl_276 72 = some (.ireturn, [1])) rfl (hQ)
    · replace hF := i_neg b7 hF
      refine en_segs [(46, .aload_n 0, []), (47, .iload_n 1, [])] (by decide +kernel) (y := (48, [some (.ref a0), some (.int x1)], [.int x1, .ref a0], h)) rfl ?_
      obtain ⟨r8, hr8, hF⟩ := ob_some hF
      refine en_vi (r := []) (by decide +kernel : u_at kl_276 48 = some (.invokevirtual 437, [258, 1, 12])) hW ha0 rfl rfl (Nat.le_of_ble_eq_true rfl) (e_258 (D := D) (by omega) hW ha0 hr8) (fun h' q => ?_)
      subst q
      refine en_segs [(51, .aload_n 0, [])] (by decide +kernel) (y := (52, [some (.ref a0), some (.int x1)], [.ref a0, .int r8], h)) rfl ?_
      refine en_get (by decide +kernel : u_at kl_276 52 = some (.getfield 39, [12, 20])) hW ha0 (by decide) rfl ?_
      refine en_segs [(55, .bipush 82, []), (57, .iload_n 1, []), (58, .iadd, [])] (by decide +kernel) (y := (59, [some (.ref a0), some (.int x1)], [.int (82 + x1), .ref (aP d 12 20 a0), .int r8], h)) rfl ?_
      obtain ⟨v9, hv9, hF⟩ := ob_some hF
      refine en_iald (by decide +kernel : u_at kl_276 59 = some (.iaload, [])) hW ha0 rfl (by decide) hv9 ?_
      refine en_ic_le (by decide +kernel : u_at kl_276 60 = some (.if_icmp .le 5, [65])) (fun b10 => ?_) (fun b10 => ?_)
      · replace hF := i_pos b10 hF
        refine en_segs [(65, .iinc 1 1, []), (68, .goto (-32), [36])] (by decide +kernel) (y := (36, [some (.ref a0), some (.int (x1 + 1))], [], h)) rfl ?_
        exact (ih _ _ _ _ _ hF).2 _ rfl rfl rfl rfl  _ hW _ hQ
      · replace hF := i_neg b10 hF
        refine en_segs [(63, .iconst 0, [])] (by decide +kernel) (y := (64, [some (.ref a0), some (.int x1)], [.int 0], h)) rfl ?_
        obtain rfl := Option.some.inj hF
        exact en_ret (by decide +kernel : u_at kl_276 64 = some (.ireturn, [1])) rfl (hQ)
def F_276 (c12 : Cl) (a0 : Nat) : Option Int32 :=
  G_276 c12 a0 0 [0] [] []
set_option maxRecDepth 100000 in
set_option maxHeartbeats 4000000 in
/-- HeadCountsModel.isSecret -/
theorem e_276 {D : Nat} {c0 c1 c2 c3 c4 c5 c6 c7 c8 c9 c10 c11 c12 c13 : Cl} {d : Ad} {h : UH} {a0 : Nat} {r : Int32} (hD : 4 ≤ D) (hW : HW (mkw c0 c1 c2 c3 c4 c5 c6 c7 c8 c9 c10 c11 c12 c13) d h) (ha0 : aK d a0 = (0, 12, 0)) (hF : F_276 c12 a0 = some r) : ∃ q, EX D 276 [.ref a0] h q ∧ q.1 = some (.int r) ∧ h = q.2 := by
  obtain ⟨D, rfl⟩ : ∃ E, D = E + 1 := ⟨D - 1, by omega⟩
  unfold F_276 at hF
  refine ex_in (kl := kl_276) (nL := 2) rfl (by decide +kernel) (Nat.le_of_ble_eq_true rfl) ?_
  obtain ⟨QQ, hQQ⟩ : ∃ QQ : UR → Prop, QQ = (fun q : UR => q.1 = some (.int r) ∧ h = q.2) := ⟨_, rfl⟩
  rw [← hQQ]
  have hQ : QQ (some (.int r), h) := by rw [hQQ]; exact ⟨rfl, rfl⟩
  clear hQQ
  show Ends (EX D) (u_at kl_276) (0, [some (.ref a0), none], [], h) QQ
  refine en_segs [(0, .iconst 0, []), (1, .istore_n 1, [])] (by decide +kernel) (y := (2, [some (.ref a0), some (.int 0)], [], h)) rfl ?_
  exact (g_276 (D := D) hD ha0 _ _ _ _ _ hF).1 _ rfl rfl rfl rfl  _ hW _ hQ
def G_277 (c12 : Cl) (a0 : Nat) (lab : Nat) (xs : List Int32) (ys : List Int64) (zs : List Nat) : Option Int32 := match lab, xs, ys, zs with
  | 0, [x1, x2], [], [] =>
    ald (cA c12 20 a0) 221 2 >>= fun v1 =>
    if v1 ≤ x2 then
    some x1
    else
    ald (cA c12 24 a0) 6 x2 >>= fun v3 =>
    ald (cA c12 32 a0) 6 x2 >>= fun v4 =>
    if v3 = v4 then
    G_277 c12 a0 0 [x1, x2 + 1] [] []
    else
    ald (cA c12 32 a0) 6 x2 >>= fun v6 =>
    F_232 c12 a0 v6 >>= fun r7 =>
    ald (cA c12 24 a0) 6 x2 >>= fun v8 =>
    F_171 r7 v8 >>= fun r9 =>
    if r9 = 0 then
    some (-1)
    else
    G_277 c12 a0 0 [x1 + 1, x2 + 1] [] []
  | _, _, _, _ => none
partial_fixpoint
set_option maxRecDepth 100000 in
set_option maxHeartbeats 4000000 in
theorem g_277 {D : Nat} (hD : 2 ≤ D + 1) {c0 c1 c2 c3 c4 c5 c6 c7 c8 c9 c10 c11 c12 c13 : Cl} {d : Ad} {a0 : Nat} (ha0 : aK d a0 = (0, 12, 0)) : ∀ (lab : Nat) (xs : List Int32) (ys : List Int64) (zs : List Nat) (r : Int32), G_277 c12 a0 lab xs ys zs = some r →
    (∀ (x1 : Int32) (x2 : Int32), lab = 0 → xs = [x1, x2] → ys = [] → zs = [] → ∀ h : UH, HW (mkw c0 c1 c2 c3 c4 c5 c6 c7 c8 c9 c10 c11 c12 c13) d h → ∀ QQ : UR → Prop, QQ (some (.int r), h) → Ends (EX D) (u_at kl_277) (4, [some (.ref a0), some (.int x1), some (.int x2)], [], h) QQ) := by
  refine G_277.partial_correctness _ _ (motive := fun lab xs ys zs r =>
    (∀ (x1 : Int32) (x2 : Int32), lab = 0 → xs = [x1, x2] → ys = [] → zs = [] → ∀ h : UH, HW (mkw c0 c1 c2 c3 c4 c5 c6 c7 c8 c9 c10 c11 c12 c13) d h → ∀ QQ : UR → Prop, QQ (some (.int r), h) → Ends (EX D) (u_at kl_277) (4, [some (.ref a0), some (.int x1), some (.int x2)], [], h) QQ)) ?_
  intro G ih lab xs ys zs r hF
  · intro x1 x2 e1 e2 e3 e4 h hW QQ hQ
    subst e1 e2 e3 e4
    refine en_segs [(4, .iload_n 2, []), (5, .aload_n 0, [])] (by decide +kernel) (y := (6, [some (.ref a0), some (.int x1), some (.int x2)], [.ref a0, .int x2], h)) rfl ?_
    refine en_get (by decide +kernel : u_at kl_277 6 = some (.getfield 39, [12, 20])) hW ha0 (by decide) rfl ?_
    refine en_segs [(9, .iconst 2, [])] (by decide +kernel) (y := (10, [some (.ref a0), some (.int x1), some (.int x2)], [.int 2, .ref (aP d 12 20 a0), .int x2], h)) rfl ?_
    obtain ⟨v1, hv1, hF⟩ := ob_some hF
    refine en_iald (by decide +kernel : u_at kl_277 10 = some (.iaload, [])) hW ha0 rfl (by decide) hv1 ?_
    refine en_ic_ge (by decide +kernel : u_at kl_277 11 = some (.if_icmp .ge 54, [65])) (fun b2 => ?_) (fun b2 => ?_)
    · replace hF := i_pos b2 hF
      refine en_segs [(65, .iload_n 1, [])] (by decide +kernel) (y := (66, [some (.ref a0), some (.int x1), some (.int x2)], [.int x1], h)) rfl ?_
      obtain rfl := Option.some.inj hF
      exact en_ret (by decide +kernel : u_at kl_277 66 = some (.ireturn, [0])) rfl (hQ)
    · replace hF := i_neg b2 hF
      refine en_segs [(14, .aload_n 0, [])] (by decide +kernel) (y := (15, [some (.ref a0), some (.int x1), some (.int x2)], [.ref a0], h)) rfl ?_
      refine en_get (by decide +kernel : u_at kl_277 15 = some (.getfield 45, [12, 24])) hW ha0 (by decide) rfl ?_
      refine en_segs [(18, .iload_n 2, [])] (by decide +kernel) (y := (19, [some (.ref a0), some (.int x1), some (.int x2)], [.int x2, .ref (aP d 12 24 a0)], h)) rfl ?_
      obtain ⟨v3, hv3, hF⟩ := ob_some hF
      refine en_iald (by decide +kernel : u_at kl_277 19 = some (.iaload, [])) hW ha0 rfl (by decide) hv3 ?_
      refine en_segs [(20, .aload_n 0, [])] (by decide +kernel) (y := (21, [some (.ref a0), some (.int x1), some (.int x2)], [.ref a0, .int v3], h)) rfl ?_
      refine en_get (by decide +kernel : u_at kl_277 21 = some (.getfield 67, [12, 32])) hW ha0 (by decide) rfl ?_
      refine en_segs [(24, .iload_n 2, [])] (by decide +kernel) (y := (25, [some (.ref a0), some (.int x1), some (.int x2)], [.int x2, .ref (aP d 12 32 a0), .int v3], h)) rfl ?_
      obtain ⟨v4, hv4, hF⟩ := ob_some hF
      refine en_iald (by decide +kernel : u_at kl_277 25 = some (.iaload, [])) hW ha0 rfl (by decide) hv4 ?_
      refine en_ic_ne (by decide +kernel : u_at kl_277 26 = some (.if_icmp .ne 6, [32])) (fun b5 => ?_) (fun b5 => ?_)
      · replace hF := i_pos b5 hF
        refine en_segs [(29, .goto 30, [59]), (59, .iinc 2 1, []), (62, .goto (-58), [4])] (by decide +kernel) (y := (4, [some (.ref a0), some (.int x1), some (.int (x2 + 1))], [], h)) rfl ?_
        exact (ih _ _ _ _ _ hF) _ _ rfl rfl rfl rfl  _ hW _ hQ
      · replace hF := i_neg b5 hF
        refine en_segs [(32, .aload_n 0, []), (33, .aload_n 0, [])] (by decide +kernel) (y := (34, [some (.ref a0), some (.int x1), some (.int x2)], [.ref a0, .ref a0], h)) rfl ?_
        refine en_get (by decide +kernel : u_at kl_277 34 = some (.getfield 67, [12, 32])) hW ha0 (by decide) rfl ?_
        refine en_segs [(37, .iload_n 2, [])] (by decide +kernel) (y := (38, [some (.ref a0), some (.int x1), some (.int x2)], [.int x2, .ref (aP d 12 32 a0), .ref a0], h)) rfl ?_
        obtain ⟨v6, hv6, hF⟩ := ob_some hF
        refine en_iald (by decide +kernel : u_at kl_277 38 = some (.iaload, [])) hW ha0 rfl (by decide) hv6 ?_
        obtain ⟨r7, hr7, hF⟩ := ob_some hF
        refine en_vi (r := []) (by decide +kernel : u_at kl_277 39 = some (.invokevirtual 378, [232, 1, 12])) hW ha0 rfl rfl (Nat.le_of_ble_eq_true rfl) (e_232 (D := D) (by omega) hW ha0 hr7) (fun h' q => ?_)
        subst q
        refine en_segs [(42, .aload_n 0, [])] (by decide +kernel) (y := (43, [some (.ref a0), some (.int x1), some (.int x2)], [.ref a0, .int r7], h)) rfl ?_
        refine en_get (by decide +kernel : u_at kl_277 43 = some (.getfield 45, [12, 24])) hW ha0 (by decide) rfl ?_
        refine en_segs [(46, .iload_n 2, [])] (by decide +kernel) (y := (47, [some (.ref a0), some (.int x1), some (.int x2)], [.int x2, .ref (aP d 12 24 a0), .int r7], h)) rfl ?_
        obtain ⟨v8, hv8, hF⟩ := ob_some hF
        refine en_iald (by decide +kernel : u_at kl_277 47 = some (.iaload, [])) hW ha0 rfl (by decide) hv8 ?_
        obtain ⟨r9, hr9, hF⟩ := ob_some hF
        refine en_si (r := []) (by decide +kernel : u_at kl_277 48 = some (.invokestatic 361, [171, 2])) rfl rfl (Nat.le_of_ble_eq_true rfl) (e_171 (D := D) (by omega) hW hr9) (fun h' q => ?_)
        subst q
        refine en_if_ne (by decide +kernel : u_at kl_277 51 = some (.ifCond .ne 5, [56])) (fun b10 => ?_) (fun b10 => ?_)
        · replace hF := i_pos b10 hF
          refine en_segs [(54, .iconst (-1), [])] (by decide +kernel) (y := (55, [some (.ref a0), some (.int x1), some (.int x2)], [.int (-1)], h)) rfl ?_
          obtain rfl := Option.some.inj hF
          exact en_ret (by decide +kernel : u_at kl_277 55 = some (.ireturn, [0])) rfl (hQ)
        · replace hF := i_neg b10 hF
          refine en_segs [(56, .iinc 1 1, []), (59, .iinc 2 1, []), (62, .goto (-58), [4])] (by decide +kernel) (y := (4, [some (.ref a0), some (.int (x1 + 1)), some (.int (x2 + 1))], [], h)) rfl ?_
          exact (ih _ _ _ _ _ hF) _ _ rfl rfl rfl rfl  _ hW _ hQ
def F_277 (c12 : Cl) (a0 : Nat) : Option Int32 :=
  G_277 c12 a0 0 [0, 0] [] []
set_option maxRecDepth 100000 in
set_option maxHeartbeats 4000000 in
/-- HeadCountsModel.goAtOnce -/
theorem e_277 {D : Nat} {c0 c1 c2 c3 c4 c5 c6 c7 c8 c9 c10 c11 c12 c13 : Cl} {d : Ad} {h : UH} {a0 : Nat} {r : Int32} (hD : 2 ≤ D) (hW : HW (mkw c0 c1 c2 c3 c4 c5 c6 c7 c8 c9 c10 c11 c12 c13) d h) (ha0 : aK d a0 = (0, 12, 0)) (hF : F_277 c12 a0 = some r) : ∃ q, EX D 277 [.ref a0] h q ∧ q.1 = some (.int r) ∧ h = q.2 := by
  obtain ⟨D, rfl⟩ : ∃ E, D = E + 1 := ⟨D - 1, by omega⟩
  unfold F_277 at hF
  refine ex_in (kl := kl_277) (nL := 3) rfl (by decide +kernel) (Nat.le_of_ble_eq_true rfl) ?_
  obtain ⟨QQ, hQQ⟩ : ∃ QQ : UR → Prop, QQ = (fun q : UR => q.1 = some (.int r) ∧ h = q.2) := ⟨_, rfl⟩
  rw [← hQQ]
  have hQ : QQ (some (.int r), h) := by rw [hQQ]; exact ⟨rfl, rfl⟩
  clear hQQ
  show Ends (EX D) (u_at kl_277) (0, [some (.ref a0), none, none], [], h) QQ
  refine en_segs [(0, .iconst 0, []), (1, .istore_n 1, []), (2, .iconst 0, []), (3, .istore_n 2, [])] (by decide +kernel) (y := (4, [some (.ref a0), some (.int 0), some (.int 0)], [], h)) rfl ?_
  exact (g_277 (D := D) hD ha0 _ _ _ _ _ hF) _ _ rfl rfl rfl rfl  _ hW _ hQ
def G_278 (a0 : Nat) (lab : Nat) (xs : List Int32) (ys : List Int64) (zs : List Nat) (c12 : Cl) : Option (Int32 × Cl) := match lab, xs, ys, zs with
  | 0, [x1, x2, x3, x4, x5, x6], [], [] =>
    if 46656 ≤ x6 then
    if 0 ≤ x4 then
    if x3 = 0 then
    some (x4, c12)
    else
    F_221 c12 a0 (x3 - 1) >>= fun r16 =>
    ((if r16 = 0 then
    some (-1)
    else
    F_224 c12 a0 (x3 - 1) >>= fun r20 =>
    if r20 = 0 then
    some (-1)
    else
    ald (cA c12 25 a0) 6 (x3 - 1) >>= fun v22 =>
    idv x5 v22 >>= fun v23 =>
    irm v23 6 >>= fun v24 =>
    some v24) : Option (Int32)) >>= fun (t17 : Int32) =>
    some (t17, c12)
    else
    some ((-2), c12)
    else
    ald (cA c12 25 a0) 6 x1 >>= fun v25 =>
    idv x6 v25 >>= fun v26 =>
    irm v26 6 >>= fun v27 =>
    if v27 = x2 then
    F_257 c12 a0 x6 >>= fun r29 =>
    if r29.1 = 0 then
    G_278 a0 0 [x1, x2, x3, x4, x5, x6 + 1] [] [] r29.2
    else
    F_277 r29.2 a0 >>= fun r31 =>
    if r31 < 0 then
    G_278 a0 0 [x1, x2, x3, x4, x5, x6 + 1] [] [] r29.2
    else
    if x4 < 0 then
    G_278 a0 1 [x1, x2, x3, x4, x5, x6, r31] [] [] r29.2
    else
    if x4 ≤ r31 then
    G_278 a0 0 [x1, x2, x3, x4, x5, x6 + 1] [] [] r29.2
    else
    G_278 a0 1 [x1, x2, x3, x4, x5, x6, r31] [] [] r29.2
    else
    G_278 a0 0 [x1, x2, x3, x4, x5, x6 + 1] [] [] c12
  | 1, [x1, x2, x3, x4, x5, x6, x7], [], [] =>
    F_276 c12 a0 >>= fun r35 =>
    ((if r35 = 0 then
    some (x4, x5)
    else
    some (x7, x6)) : Option (Int32 × Int32)) >>= fun (t36 : Int32 × Int32) =>
    G_278 a0 0 [x1, x2, x3, t36.1, t36.2, x6 + 1] [] [] c12
  | _, _, _, _ => none
partial_fixpoint
set_option maxRecDepth 100000 in
set_option maxHeartbeats 4000000 in
theorem g_278 {D : Nat} (hD : 5 ≤ D + 1) {c0 c1 c2 c3 c4 c5 c6 c7 c8 c9 c10 c11 c13 : Cl} {d : Ad} {a0 : Nat} (ha0 : aK d a0 = (0, 12, 0)) : ∀ (lab : Nat) (xs : List Int32) (ys : List Int64) (zs : List Nat) (c12 : Cl) (r : (Int32 × Cl)), G_278 a0 lab xs ys zs c12 = some r →
    (∀ (x1 : Int32) (x2 : Int32) (x3 : Int32) (x4 : Int32) (x5 : Int32) (x6 : Int32), lab = 0 → xs = [x1, x2, x3, x4, x5, x6] → ys = [] → zs = [] → ∀ h : UH, HW (mkw c0 c1 c2 c3 c4 c5 c6 c7 c8 c9 c10 c11 c12 c13) d h → ∀ QQ : UR → Prop, (∀ h' : UH, HW (mkw c0 c1 c2 c3 c4 c5 c6 c7 c8 c9 c10 c11 r.2 c13) d h' → QQ (some (.int r.1), h')) → Ends (EX D) (u_at kl_278) (65, [some (.ref a0), some (.int x1), some (.int x2), some (.int x3), some (.int x4), some (.int x5), some (.int x6), none], [], h) QQ) ∧
    (∀ (x1 : Int32) (x2 : Int32) (x3 : Int32) (x4 : Int32) (x5 : Int32) (x6 : Int32) (x7 : Int32), lab = 1 → xs = [x1, x2, x3, x4, x5, x6, x7] → ys = [] → zs = [] → ∀ h : UH, HW (mkw c0 c1 c2 c3 c4 c5 c6 c7 c8 c9 c10 c11 c12 c13) d h → ∀ QQ : UR → Prop, (∀ h' : UH, HW (mkw c0 c1 c2 c3 c4 c5 c6 c7 c8 c9 c10 c11 r.2 c13) d h' → QQ (some (.int r.1), h')) → Ends (EX D) (u_at kl_278) (123, [some (.ref a0), some (.int x1), some (.int x2), some (.int x3), some (.int x4), some (.int x5), some (.int x6), some (.int x7)], [], h) QQ) := by
  refine G_278.partial_correctness _ (motive := fun lab xs ys zs c12 r =>
    (∀ (x1 : Int32) (x2 : Int32) (x3 : Int32) (x4 : Int32) (x5 : Int32) (x6 : Int32), lab = 0 → xs = [x1, x2, x3, x4, x5, x6] → ys = [] → zs = [] → ∀ h : UH, HW (mkw c0 c1 c2 c3 c4 c5 c6 c7 c8 c9 c10 c11 c12 c13) d h → ∀ QQ : UR → Prop, (∀ h' : UH, HW (mkw c0 c1 c2 c3 c4 c5 c6 c7 c8 c9 c10 c11 r.2 c13) d h' → QQ (some (.int r.1), h')) → Ends (EX D) (u_at kl_278) (65, [some (.ref a0), some (.int x1), some (.int x2), some (.int x3), some (.int x4), some (.int x5), some (.int x6), none], [], h) QQ) ∧
    (∀ (x1 : Int32) (x2 : Int32) (x3 : Int32) (x4 : Int32) (x5 : Int32) (x6 : Int32) (x7 : Int32), lab = 1 → xs = [x1, x2, x3, x4, x5, x6, x7] → ys = [] → zs = [] → ∀ h : UH, HW (mkw c0 c1 c2 c3 c4 c5 c6 c7 c8 c9 c10 c11 c12 c13) d h → ∀ QQ : UR → Prop, (∀ h' : UH, HW (mkw c0 c1 c2 c3 c4 c5 c6 c7 c8 c9 c10 c11 r.2 c13) d h' → QQ (some (.int r.1), h')) → Ends (EX D) (u_at kl_278) (123, [some (.ref a0), some (.int x1), some (.int x2), some (.int x3), some (.int x4), some (.int x5), some (.int x6), some (.int x7)], [], h) QQ)) ?_
  intro G ih lab xs ys zs c12 r hF
  refine ⟨?_, ?_⟩
  · intro x1 x2 x3 x4 x5 x6 e1 e2 e3 e4 h hW QQ hQ
    subst e1 e2 e3 e4
    refine en_segs [(65, .iload 6, []), (67, .ldc 51, [46656])] (by decide +kernel) (y := (69, [some (.ref a0), some (.int x1), some (.int x2), some (.int x3), some (.int x4), some (.int x5), some (.int x6), none], [.int 46656, .int x6], h)) rfl ?_
    refine en_ic_ge (by decide +kernel : u_at kl_278 69 = some (.if_icmp .ge 78, [147])) (fun b13 => ?_) (fun b13 => ?_)
    · replace hF := i_pos b13 hF
      refine en_segs [(147, .iload 4, [])] (by decide +kernel) (y := (149, [some (.ref a0), some (.int x1), some (.int x2), some (.int x3), some (.int x4), some (.int x5), some (.int x6), none], [.int x4], h)) rfl ?_
      refine en_if_ge (by decide +kernel : u_at kl_278 149 = some (.ifCond .ge 6, [155])) (fun b14 => ?_) (fun b14 => ?_)
      · replace hF := i_pos b14 hF
        refine en_segs [(155, .iload_n 3, [])] (by decide +kernel) (y := (156, [some (.ref a0), some (.int x1), some (.int x2), some (.int x3), some (.int x4), some (.int x5), some (.int x6), none], [.int x3], h)) rfl ?_
        refine en_if_ne (by decide +kernel : u_at kl_278 156 = some (.ifCond .ne 6, [162])) (fun b15 => ?_) (fun b15 => ?_)
        · replace hF := i_pos b15 hF
          refine en_segs [(159, .iload 4, [])] (by decide +kernel) (y := (161, [some (.ref a0), some (.int x1), some (.int x2), some (.int x3), some (.int x4), some (.int x5), some (.int x6), none], [.int x4], h)) rfl ?_
          obtain rfl := Option.some.inj hF
          exact en_ret (by decide +kernel : u_at kl_278 161 = some (.ireturn, [0])) rfl (hQ _ hW)
        · replace hF := i_neg b15 hF
          refine en_segs [(162, .aload_n 0, []), (163, .iload_n 3, []), (164, .iconst 1, []), (165, .isub, [])] (by decide +kernel) (y := (166, [some (.ref a0), some (.int x1), some (.int x2), some (.int x3), some (.int x4), some (.int x5), some (.int x6), none], [.int (x3 - 1), .ref a0], h)) rfl ?_
          obtain ⟨r16, hr16, hF⟩ := ob_some hF
          refine en_vi (r := []) (by decide +kernel : u_at kl_278 166 = some (.invokevirtual 367, [221, 1, 12])) hW ha0 rfl rfl (Nat.le_of_ble_eq_true rfl) (e_221 (D := D) (by omega) hW ha0 hr16) (fun h' q => ?_)
          subst q
          obtain ⟨t17, hX, hK⟩ := ob_some hF
          have j18 : ∀ h : UH, HW (mkw c0 c1 c2 c3 c4 c5 c6 c7 c8 c9 c10 c11 c12 c13) d h → Ends (EX D) (u_at kl_278) (200, [some (.ref a0), some (.int x1), some (.int x2), some (.int x3), some (.int x4), some (.int x5), some (.int x6), none], [.int t17], h) QQ := by
            intro h hW
            have hF := hK
            obtain rfl := Option.some.inj hF
            exact en_ret (by decide +kernel : u_at kl_278 200 = some (.ireturn, [0])) rfl (hQ _ hW)
          have hF := hX
          refine en_if_eq (by decide +kernel : u_at kl_278 169 = some (.ifCond .eq 30, [199])) (fun b19 => ?_) (fun b19 => ?_)
          · replace hF := i_pos b19 hF
            refine en_segs [(199, .iconst (-1), [])] (by decide +kernel) (y := (200, [some (.ref a0), some (.int x1), some (.int x2), some (.int x3), some (.int x4), some (.int x5), some (.int x6), none], [.int (-1)], h)) rfl ?_
            obtain rfl := Option.some.inj hF
            exact j18 _ hW
          · replace hF := i_neg b19 hF
            refine en_segs [(172, .aload_n 0, []), (173, .iload_n 3, []), (174, .iconst 1, []), (175, .isub, [])] (by decide +kernel) (y := (176, [some (.ref a0), some (.int x1), some (.int x2), some (.int x3), some (.int x4), some (.int x5), some (.int x6), none], [.int (x3 - 1), .ref a0], h)) rfl ?_
            obtain ⟨r20, hr20, hF⟩ := ob_some hF
            refine en_vi (r := []) (by decide +kernel : u_at kl_278 176 = some (.invokevirtual 346, [224, 1, 12])) hW ha0 rfl rfl (Nat.le_of_ble_eq_true rfl) (e_224 (D := D) (by omega) hW ha0 hr20) (fun h' q => ?_)
            subst q
            refine en_if_eq (by decide +kernel : u_at kl_278 179 = some (.ifCond .eq 20, [199])) (fun b21 => ?_) (fun b21 => ?_)
            · replace hF := i_pos b21 hF
              refine en_segs [(199, .iconst (-1), [])] (by decide +kernel) (y := (200, [some (.ref a0), some (.int x1), some (.int x2), some (.int x3), some (.int x4), some (.int x5), some (.int x6), none], [.int (-1)], h)) rfl ?_
              obtain rfl := Option.some.inj hF
              exact j18 _ hW
            · replace hF := i_neg b21 hF
              refine en_segs [(182, .iload 5, []), (184, .aload_n 0, [])] (by decide +kernel) (y := (185, [some (.ref a0), some (.int x1), some (.int x2), some (.int x3), some (.int x4), some (.int x5), some (.int x6), none], [.ref a0, .int x5], h)) rfl ?_
              refine en_get (by decide +kernel : u_at kl_278 185 = some (.getfield 48, [12, 25])) hW ha0 (by decide) rfl ?_
              refine en_segs [(188, .iload_n 3, []), (189, .iconst 1, []), (190, .isub, [])] (by decide +kernel) (y := (191, [some (.ref a0), some (.int x1), some (.int x2), some (.int x3), some (.int x4), some (.int x5), some (.int x6), none], [.int (x3 - 1), .ref (aP d 12 25 a0), .int x5], h)) rfl ?_
              obtain ⟨v22, hv22, hF⟩ := ob_some hF
              refine en_iald (by decide +kernel : u_at kl_278 191 = some (.iaload, [])) hW ha0 rfl (by decide) hv22 ?_
              obtain ⟨v23, hv23, hF⟩ := ob_some hF
              refine en_idiv (by decide +kernel : u_at kl_278 192 = some (.idiv, [])) hv23 ?_
              refine en_segs [(193, .bipush 6, [])] (by decide +kernel) (y := (195, [some (.ref a0), some (.int x1), some (.int x2), some (.int x3), some (.int x4), some (.int x5), some (.int x6), none], [.int 6, .int v23], h)) rfl ?_
              obtain ⟨v24, hv24, hF⟩ := ob_some hF
              refine en_irem (by decide +kernel : u_at kl_278 195 = some (.irem, [])) hv24 ?_
              refine en_segs [(196, .goto 4, [200])] (by decide +kernel) (y := (200, [some (.ref a0), some (.int x1), some (.int x2), some (.int x3), some (.int x4), some (.int x5), some (.int x6), none], [.int v24], h)) rfl ?_
              obtain rfl := Option.some.inj hF
              exact j18 _ hW
      · replace hF := i_neg b14 hF
        refine en_segs [(152, .bipush (-2), [])] (by decide +kernel) (y := (154, [some (.ref a0), some (.int x1), some (.int x2), some (.int x3), some (.int x4), some (.int x5), some (.int x6), none], [.int (-2)], h)) rfl ?_
        obtain rfl := Option.some.inj hF
        exact en_ret (by decide +kernel : u_at kl_278 154 = some (.ireturn, [0])) rfl (hQ _ hW)
    · replace hF := i_neg b13 hF
      refine en_segs [(72, .iload 6, []), (74, .aload_n 0, [])] (by decide +kernel) (y := (75, [some (.ref a0), some (.int x1), some (.int x2), some (.int x3), some (.int x4), some (.int x5), some (.int x6), none], [.ref a0, .int x6], h)) rfl ?_
      refine en_get (by decide +kernel : u_at kl_278 75 = some (.getfield 48, [12, 25])) hW ha0 (by decide) rfl ?_
      refine en_segs [(78, .iload_n 1, [])] (by decide +kernel) (y := (79, [some (.ref a0), some (.int x1), some (.int x2), some (.int x3), some (.int x4), some (.int x5), some (.int x6), none], [.int x1, .ref (aP d 12 25 a0), .int x6], h)) rfl ?_
      obtain ⟨v25, hv25, hF⟩ := ob_some hF
      refine en_iald (by decide +kernel : u_at kl_278 79 = some (.iaload, [])) hW ha0 rfl (by decide) hv25 ?_
      obtain ⟨v26, hv26, hF⟩ := ob_some hF
      refine en_idiv (by decide +kernel : u_at kl_278 80 = some (.idiv, [])) hv26 ?_
      refine en_segs [(81, .bipush 6, [])] (by decide +kernel) (y := (83, [some (.ref a0), some (.int x1), some (.int x2), some (.int x3), some (.int x4), some (.int x5), some (.int x6), none], [.int 6, .int v26], h)) rfl ?_
      obtain ⟨v27, hv27, hF⟩ := ob_some hF
      refine en_irem (by decide +kernel : u_at kl_278 83 = some (.irem, [])) hv27 ?_
      refine en_segs [(84, .iload_n 2, [])] (by decide +kernel) (y := (85, [some (.ref a0), some (.int x1), some (.int x2), some (.int x3), some (.int x4), some (.int x5), some (.int x6), none], [.int x2, .int v27], h)) rfl ?_
      refine en_ic_ne (by decide +kernel : u_at kl_278 85 = some (.if_icmp .ne 56, [141])) (fun b28 => ?_) (fun b28 => ?_)
      · replace hF := i_pos b28 hF
        refine en_segs [(88, .aload_n 0, []), (89, .iload 6, [])] (by decide +kernel) (y := (91, [some (.ref a0), some (.int x1), some (.int x2), some (.int x3), some (.int x4), some (.int x5), some (.int x6), none], [.int x6, .ref a0], h)) rfl ?_
        obtain ⟨r29, hr29, hF⟩ := ob_some hF
        refine en_vi (r := []) (by decide +kernel : u_at kl_278 91 = some (.invokevirtual 487, [257, 1, 12])) hW ha0 rfl rfl (Nat.le_of_ble_eq_true rfl) (e_257 (D := D) (by omega) hW ha0 hr29) (fun h hW => ?_)
        have hW : HW (mkw c0 c1 c2 c3 c4 c5 c6 c7 c8 c9 c10 c11 r29.2 c13) d h := hW
        refine en_if_ne (by decide +kernel : u_at kl_278 94 = some (.ifCond .ne 6, [100])) (fun b30 => ?_) (fun b30 => ?_)
        · replace hF := i_pos b30 hF
          refine en_segs [(97, .goto 44, [141]), (141, .iinc 6 1, []), (144, .goto (-79), [65])] (by decide +kernel) (y := (65, [some (.ref a0), some (.int x1), some (.int x2), some (.int x3), some (.int x4), some (.int x5), some (.int (x6 + 1)), none], [], h)) rfl ?_
          exact (ih _ _ _ _ _ _ hF).1 _ _ _ _ _ _ rfl rfl rfl rfl  _ hW _ hQ
        · replace hF := i_neg b30 hF
          refine en_segs [(100, .aload_n 0, [])] (by decide +kernel) (y := (101, [some (.ref a0), some (.int x1), some (.int x2), some (.int x3), some (.int x4), some (.int x5), some (.int x6), none], [.ref a0], h)) rfl ?_
          obtain ⟨r31, hr31, hF⟩ := ob_some hF
          refine en_vi (r := []) (by decide +kernel : u_at kl_278 101 = some (.invokevirtual 490, [277, 0, 12])) hW ha0 rfl rfl (Nat.le_of_ble_eq_true rfl) (e_277 (D := D) (by omega) hW ha0 hr31) (fun h' q => ?_)
          subst q
          refine en_segs [(104, .istore 7, []), (106, .iload 7, [])] (by decide +kernel) (y := (108, [some (.ref a0), some (.int x1), some (.int x2), some (.int x3), some (.int x4), some (.int x5), some (.int x6), some (.int r31)], [.int r31], h)) rfl ?_
          refine en_if_lt (by decide +kernel : u_at kl_278 108 = some (.ifCond .lt 33, [141])) (fun b32 => ?_) (fun b32 => ?_)
          · replace hF := i_pos b32 hF
            refine en_segs [(141, .iinc 6 1, []), (144, .goto (-79), [65])] (by decide +kernel) (y := (65, [some (.ref a0), some (.int x1), some (.int x2), some (.int x3), some (.int x4), some (.int x5), some (.int (x6 + 1)), some (.int r31)], [], h)) rfl ?_
            refine en_fg (fg_k (fg_k (fg_k (fg_k (fg_k (fg_k (fg_k (fg_d fg_0)))))))) ?_
            exact (ih _ _ _ _ _ _ hF).1 _ _ _ _ _ _ rfl rfl rfl rfl  _ hW _ hQ
          · replace hF := i_neg b32 hF
            refine en_segs [(111, .iload 4, [])] (by decide +kernel) (y := (113, [some (.ref a0), some (.int x1), some (.int x2), some (.int x3), some (.int x4), some (.int x5), some (.int x6), some (.int r31)], [.int x4], h)) rfl ?_
            refine en_if_lt (by decide +kernel : u_at kl_278 113 = some (.ifCond .lt 10, [123])) (fun b33 => ?_) (fun b33 => ?_)
            · replace hF := i_pos b33 hF
              exact (ih _ _ _ _ _ _ hF).2 _ _ _ _ _ _ _ rfl rfl rfl rfl  _ hW _ hQ
            · replace hF := i_neg b33 hF
              refine en_segs [(116, .iload 7, []), (118, .iload 4, [])] (by decide +kernel) (y := (120, [some (.ref a0), some (.int x1), some (.int x2), some (.int x3), some (.int x4), some (.int x5), some (.int x6), some (.int r31)], [.int x4, .int r31], h)) rfl ?_
              refine en_ic_ge (by decide +kernel : u_at kl_278 120 = some (.if_icmp .ge 21, [141])) (fun b34 => ?_) (fun b34 => ?_)
              · replace hF := i_pos b34 hF
                refine en_segs [(141, .iinc 6 1, []), (144, .goto (-79), [65])] (by decide +kernel) (y := (65, [some (.ref a0), some (.int x1), some (.int x2), some (.int x3), some (.int x4), some (.int x5), some (.int (x6 + 1)), some (.int r31)], [], h)) rfl ?_
                refine en_fg (fg_k (fg_k (fg_k (fg_k (fg_k (fg_k (fg_k (fg_d fg_0)))))))) ?_
                exact (ih _ _ _ _ _ _ hF).1 _ _ _ _ _ _ rfl rfl rfl rfl  _ hW _ hQ
              · replace hF := i_neg b34 hF
                exact (ih _ _ _ _ _ _ hF).2 _ _ _ _ _ _ _ rfl rfl rfl rfl  _ hW _ hQ
      · replace hF := i_neg b28 hF
        refine en_segs [(141, .iinc 6 1, []), (144, .goto (-79), [65])] (by decide +kernel) (y := (65, [some (.ref a0), some (.int x1), some (.int x2), some (.int x3), some (.int x4), some (.int x5), some (.int (x6 + 1)), none], [], h)) rfl ?_
        exact (ih _ _ _ _ _ _ hF).1 _ _ _ _ _ _ rfl rfl rfl rfl  _ hW _ hQ
  · intro x1 x2 x3 x4 x5 x6 x7 e1 e2 e3 e4 h hW QQ hQ
    subst e1 e2 e3 e4
    refine en_segs [(123, .aload_n 0, [])] (by decide +kernel) (y := (124, [some (.ref a0), some (.int x1), some (.int x2), some (.int x3), some (.int x4), some (.int x5), some (.int x6), some (.int x7)], [.ref a0], h)) rfl ?_
    obtain ⟨r35, hr35, hF⟩ := ob_some hF
    refine en_vi (r := []) (by decide +kernel : u_at kl_278 124 = some (.invokevirtual 493, [276, 0, 12])) hW ha0 rfl rfl (Nat.le_of_ble_eq_true rfl) (e_276 (D := D) (by omega) hW ha0 hr35) (fun h' q => ?_)
    subst q
    obtain ⟨t36, hX, hK⟩ := ob_some hF
    have j37 : ∀ h : UH, HW (mkw c0 c1 c2 c3 c4 c5 c6 c7 c8 c9 c10 c11 c12 c13) d h → Ends (EX D) (u_at kl_278) (141, [some (.ref a0), some (.int x1), some (.int x2), some (.int x3), some (.int t36.1), some (.int t36.2), some (.int x6), some (.int x7)], [], h) QQ := by
      intro h hW
      have hF := hK
      refine en_segs [(141, .iinc 6 1, []), (144, .goto (-79), [65])] (by decide +kernel) (y := (65, [some (.ref a0), some (.int x1), some (.int x2), some (.int x3), some (.int t36.1), some (.int t36.2), some (.int (x6 + 1)), some (.int x7)], [], h)) rfl ?_
      refine en_fg (fg_k (fg_k (fg_k (fg_k (fg_k (fg_k (fg_k (fg_d fg_0)))))))) ?_
      exact (ih _ _ _ _ _ _ hF).1 _ _ _ _ _ _ rfl rfl rfl rfl  _ hW _ hQ
    have hF := hX
    refine en_if_ne (by decide +kernel : u_at kl_278 127 = some (.ifCond .ne 6, [133])) (fun b38 => ?_) (fun b38 => ?_)
    · replace hF := i_pos b38 hF
      refine en_segs [(130, .goto 11, [141])] (by decide +kernel) (y := (141, [some (.ref a0), some (.int x1), some (.int x2), some (.int x3), some (.int x4), some (.int x5), some (.int x6), some (.int x7)], [], h)) rfl ?_
      obtain rfl := Option.some.inj hF
      exact j37 _ hW
    · replace hF := i_neg b38 hF
      refine en_segs [(133, .iload 7, []), (135, .istore 4, []), (137, .iload 6, []), (139, .istore 5, [])] (by decide +kernel) (y := (141, [some (.ref a0), some (.int x1), some (.int x2), some (.int x3), some (.int x7), some (.int x6), some (.int x6), some (.int x7)], [], h)) rfl ?_
      obtain rfl := Option.some.inj hF
      exact j37 _ hW
def F_278 (c12 : Cl) (a0 : Nat) (p1 : Int32) (p2 : Int32) (p3 : Int32) : Option (Int32 × Cl) :=
  F_221 c12 a0 p1 >>= fun r1 =>
  if r1 = 0 then
  some ((-1), c12)
  else
  F_224 c12 a0 p1 >>= fun r3 =>
  if r3 = 0 then
  some ((-1), c12)
  else
  F_219 c12 a0 p2 >>= fun r5 =>
  if r5 = 0 then
  some ((-1), c12)
  else
  F_223 c12 a0 p1 0 >>= fun r7 =>
  if r7 = p2 then
  some ((-1), c12)
  else
  F_170 ((p3 : Int32).toInt64) 0 6 >>= fun r9 =>
  if r9 = 0 then
  some ((-1), c12)
  else
  F_256 c12 a0 >>= fun r11 =>
  F_275 c12 a0 r11 >>= fun r12 =>
  G_278 a0 0 [p1, p2, p3, (-1), 0, 0] [] [] r12
set_option maxRecDepth 100000 in
set_option maxHeartbeats 4000000 in
/-- HeadCountsModel.secret -/
theorem e_278 {D : Nat} {c0 c1 c2 c3 c4 c5 c6 c7 c8 c9 c10 c11 c12 c13 : Cl} {d : Ad} {h : UH} {a0 : Nat} {p1 : Int32} {p2 : Int32} {p3 : Int32} {r : (Int32 × Cl)} (hD : 5 ≤ D) (hW : HW (mkw c0 c1 c2 c3 c4 c5 c6 c7 c8 c9 c10 c11 c12 c13) d h) (ha0 : aK d a0 = (0, 12, 0)) (hF : F_278 c12 a0 p1 p2 p3 = some r) : ∃ q, EX D 278 [.ref a0, .int p1, .int p2, .int p3] h q ∧ q.1 = some (.int r.1) ∧ HW (mkw c0 c1 c2 c3 c4 c5 c6 c7 c8 c9 c10 c11 r.2 c13) d q.2 := by
  obtain ⟨D, rfl⟩ : ∃ E, D = E + 1 := ⟨D - 1, by omega⟩
  unfold F_278 at hF
  refine ex_in (kl := kl_278) (nL := 8) rfl (by decide +kernel) (Nat.le_of_ble_eq_true rfl) ?_
  obtain ⟨QQ, hQQ⟩ : ∃ QQ : UR → Prop, QQ = (fun q : UR => q.1 = some (.int r.1) ∧ HW (mkw c0 c1 c2 c3 c4 c5 c6 c7 c8 c9 c10 c11 r.2 c13) d q.2) := ⟨_, rfl⟩
  rw [← hQQ]
  have hQ : ∀ h' : UH, HW (mkw c0 c1 c2 c3 c4 c5 c6 c7 c8 c9 c10 c11 r.2 c13) d h' → QQ (some (.int r.1), h') := fun h' p => by rw [hQQ]; exact ⟨rfl, p⟩
  clear hQQ
  show Ends (EX D) (u_at kl_278) (0, [some (.ref a0), some (.int p1), some (.int p2), some (.int p3), none, none, none, none], [], h) QQ
  refine en_segs [(0, .aload_n 0, []), (1, .iload_n 1, [])] (by decide +kernel) (y := (2, [some (.ref a0), some (.int p1), some (.int p2), some (.int p3), none, none, none, none], [.int p1, .ref a0], h)) rfl ?_
  obtain ⟨r1, hr1, hF⟩ := ob_some hF
  refine en_vi (r := []) (by decide +kernel : u_at kl_278 2 = some (.invokevirtual 367, [221, 1, 12])) hW ha0 rfl rfl (Nat.le_of_ble_eq_true rfl) (e_221 (D := D) (by omega) hW ha0 hr1) (fun h' q => ?_)
  subst q
  refine en_if_eq (by decide +kernel : u_at kl_278 5 = some (.ifCond .eq 41, [46])) (fun b2 => ?_) (fun b2 => ?_)
  · replace hF := i_pos b2 hF
    refine en_segs [(46, .iconst (-1), [])] (by decide +kernel) (y := (47, [some (.ref a0), some (.int p1), some (.int p2), some (.int p3), none, none, none, none], [.int (-1)], h)) rfl ?_
    obtain rfl := Option.some.inj hF
    exact en_ret (by decide +kernel : u_at kl_278 47 = some (.ireturn, [0])) rfl (hQ _ hW)
  · replace hF := i_neg b2 hF
    refine en_segs [(8, .aload_n 0, []), (9, .iload_n 1, [])] (by decide +kernel) (y := (10, [some (.ref a0), some (.int p1), some (.int p2), some (.int p3), none, none, none, none], [.int p1, .ref a0], h)) rfl ?_
    obtain ⟨r3, hr3, hF⟩ := ob_some hF
    refine en_vi (r := []) (by decide +kernel : u_at kl_278 10 = some (.invokevirtual 346, [224, 1, 12])) hW ha0 rfl rfl (Nat.le_of_ble_eq_true rfl) (e_224 (D := D) (by omega) hW ha0 hr3) (fun h' q => ?_)
    subst q
    refine en_if_eq (by decide +kernel : u_at kl_278 13 = some (.ifCond .eq 33, [46])) (fun b4 => ?_) (fun b4 => ?_)
    · replace hF := i_pos b4 hF
      refine en_segs [(46, .iconst (-1), [])] (by decide +kernel) (y := (47, [some (.ref a0), some (.int p1), some (.int p2), some (.int p3), none, none, none, none], [.int (-1)], h)) rfl ?_
      obtain rfl := Option.some.inj hF
      exact en_ret (by decide +kernel : u_at kl_278 47 = some (.ireturn, [0])) rfl (hQ _ hW)
    · replace hF := i_neg b4 hF
      refine en_segs [(16, .aload_n 0, []), (17, .iload_n 2, [])] (by decide +kernel) (y := (18, [some (.ref a0), some (.int p1), some (.int p2), some (.int p3), none, none, none, none], [.int p2, .ref a0], h)) rfl ?_
      obtain ⟨r5, hr5, hF⟩ := ob_some hF
      refine en_vi (r := []) (by decide +kernel : u_at kl_278 18 = some (.invokevirtual 372, [219, 1, 12])) hW ha0 rfl rfl (Nat.le_of_ble_eq_true rfl) (e_219 (D := D) (by omega) hW ha0 hr5) (fun h' q => ?_)
      subst q
      refine en_if_eq (by decide +kernel : u_at kl_278 21 = some (.ifCond .eq 25, [46])) (fun b6 => ?_) (fun b6 => ?_)
      · replace hF := i_pos b6 hF
        refine en_segs [(46, .iconst (-1), [])] (by decide +kernel) (y := (47, [some (.ref a0), some (.int p1), some (.int p2), some (.int p3), none, none, none, none], [.int (-1)], h)) rfl ?_
        obtain rfl := Option.some.inj hF
        exact en_ret (by decide +kernel : u_at kl_278 47 = some (.ireturn, [0])) rfl (hQ _ hW)
      · replace hF := i_neg b6 hF
        refine en_segs [(24, .aload_n 0, []), (25, .iload_n 1, []), (26, .iconst 0, [])] (by decide +kernel) (y := (27, [some (.ref a0), some (.int p1), some (.int p2), some (.int p3), none, none, none, none], [.int 0, .int p1, .ref a0], h)) rfl ?_
        obtain ⟨r7, hr7, hF⟩ := ob_some hF
        refine en_vi (r := []) (by decide +kernel : u_at kl_278 27 = some (.invokevirtual 343, [223, 2, 12])) hW ha0 rfl rfl (Nat.le_of_ble_eq_true rfl) (e_223 (D := D) (by omega) hW ha0 hr7) (fun h' q => ?_)
        subst q
        refine en_segs [(30, .iload_n 2, [])] (by decide +kernel) (y := (31, [some (.ref a0), some (.int p1), some (.int p2), some (.int p3), none, none, none, none], [.int p2, .int r7], h)) rfl ?_
        refine en_ic_eq (by decide +kernel : u_at kl_278 31 = some (.if_icmp .eq 15, [46])) (fun b8 => ?_) (fun b8 => ?_)
        · replace hF := i_pos b8 hF
          refine en_segs [(46, .iconst (-1), [])] (by decide +kernel) (y := (47, [some (.ref a0), some (.int p1), some (.int p2), some (.int p3), none, none, none, none], [.int (-1)], h)) rfl ?_
          obtain rfl := Option.some.inj hF
          exact en_ret (by decide +kernel : u_at kl_278 47 = some (.ireturn, [0])) rfl (hQ _ hW)
        · replace hF := i_neg b8 hF
          refine en_segs [(34, .iload_n 3, []), (35, .i2l, []), (36, .lconst 0, []), (37, .ldc2_w 482, [6])] (by decide +kernel) (y := (40, [some (.ref a0), some (.int p1), some (.int p2), some (.int p3), none, none, none, none], [.long 6, .long 0, .long ((p3 : Int32).toInt64)], h)) rfl ?_
          obtain ⟨r9, hr9, hF⟩ := ob_some hF
          refine en_si (r := []) (by decide +kernel : u_at kl_278 40 = some (.invokestatic 161, [170, 3])) rfl rfl (Nat.le_of_ble_eq_true rfl) (e_170 (D := D) (by omega) hW hr9) (fun h' q => ?_)
          subst q
          refine en_if_ne (by decide +kernel : u_at kl_278 43 = some (.ifCond .ne 5, [48])) (fun b10 => ?_) (fun b10 => ?_)
          · replace hF := i_pos b10 hF
            refine en_segs [(46, .iconst (-1), [])] (by decide +kernel) (y := (47, [some (.ref a0), some (.int p1), some (.int p2), some (.int p3), none, none, none, none], [.int (-1)], h)) rfl ?_
            obtain rfl := Option.some.inj hF
            exact en_ret (by decide +kernel : u_at kl_278 47 = some (.ireturn, [0])) rfl (hQ _ hW)
          · replace hF := i_neg b10 hF
            refine en_segs [(48, .aload_n 0, []), (49, .aload_n 0, [])] (by decide +kernel) (y := (50, [some (.ref a0), some (.int p1), some (.int p2), some (.int p3), none, none, none, none], [.ref a0, .ref a0], h)) rfl ?_
            obtain ⟨r11, hr11, hF⟩ := ob_some hF
            refine en_vi (r := [.ref a0]) (by decide +kernel : u_at kl_278 50 = some (.invokevirtual 446, [256, 0, 12])) hW ha0 rfl rfl (Nat.le_of_ble_eq_true rfl) (e_256 (D := D) (by omega) hW ha0 hr11) (fun h' q => ?_)
            subst q
            obtain ⟨r12, hr12, hF⟩ := ob_some hF
            refine en_vv (r := []) (by decide +kernel : u_at kl_278 53 = some (.invokevirtual 484, [275, 1, 12])) hW ha0 rfl rfl (Nat.le_of_ble_eq_true rfl) (e_275 (D := D) (by omega) hW ha0 hr12) (fun h hW => ?_)
            have hW : HW (mkw c0 c1 c2 c3 c4 c5 c6 c7 c8 c9 c10 c11 r12 c13) d h := hW
            refine en_segs [(56, .iconst (-1), []), (57, .istore 4, []), (59, .iconst 0, []), (60, .istore 5, []), (62, .iconst 0, []), (63, .istore 6, [])] (by decide +kernel) (y := (65, [some (.ref a0), some (.int p1), some (.int p2), some (.int p3), some (.int (-1)), some (.int 0), some (.int 0), none], [], h)) rfl ?_
            exact (g_278 (D := D) hD ha0 _ _ _ _ _ _ hF).1 _ _ _ _ _ _ rfl rfl rfl rfl  _ hW _ hQ
def G_279 (a0 : Nat) (lab : Nat) (xs : List Int32) (ys : List Int64) (zs : List Nat) (c12 : Cl) : Option Cl := match lab, xs, ys, zs with
  | 0, [x1, x2], [], [] =>
    if x2 ≤ 0 then
    G_279 a0 1 [x1, x2] [] [] c12
    else
    ald (cA c12 38 a0) 420 (x2 - 1) >>= fun v2 =>
    if v2 ≤ x1 then
    G_279 a0 1 [x1, x2] [] [] c12
    else
    ald (cA c12 38 a0) 420 (x2 - 1) >>= fun v4 =>
    ast c12 38 a0 420 x2 v4 >>= fun c12_5 =>
    G_279 a0 0 [x1, x2 + (-1)] [] [] c12_5
  | 1, [x1, x2], [], [] =>
    ast c12 38 a0 420 x2 x1 >>= fun c12_6 =>
    some (sI c12_6 39 a0 ((cI c12_6 39 a0) + 1)) >>= fun c12_7 =>
    some c12_7
  | _, _, _, _ => none
partial_fixpoint
set_option maxRecDepth 100000 in
set_option maxHeartbeats 4000000 in
theorem g_279 {D : Nat} (hD : 1 ≤ D + 1) {c0 c1 c2 c3 c4 c5 c6 c7 c8 c9 c10 c11 c13 : Cl} {d : Ad} {a0 : Nat} (ha0 : aK d a0 = (0, 12, 0)) : ∀ (lab : Nat) (xs : List Int32) (ys : List Int64) (zs : List Nat) (c12 : Cl) (r : Cl), G_279 a0 lab xs ys zs c12 = some r →
    (∀ (x1 : Int32) (x2 : Int32), lab = 0 → xs = [x1, x2] → ys = [] → zs = [] → ∀ h : UH, HW (mkw c0 c1 c2 c3 c4 c5 c6 c7 c8 c9 c10 c11 c12 c13) d h → ∀ QQ : UR → Prop, (∀ h' : UH, HW (mkw c0 c1 c2 c3 c4 c5 c6 c7 c8 c9 c10 c11 r c13) d h' → QQ (none, h')) → Ends (EX D) (u_at kl_279) (5, [some (.ref a0), some (.int x1), some (.int x2)], [], h) QQ) ∧
    (∀ (x1 : Int32) (x2 : Int32), lab = 1 → xs = [x1, x2] → ys = [] → zs = [] → ∀ h : UH, HW (mkw c0 c1 c2 c3 c4 c5 c6 c7 c8 c9 c10 c11 c12 c13) d h → ∀ QQ : UR → Prop, (∀ h' : UH, HW (mkw c0 c1 c2 c3 c4 c5 c6 c7 c8 c9 c10 c11 r c13) d h' → QQ (none, h')) → Ends (EX D) (u_at kl_279) (41, [some (.ref a0), some (.int x1), some (.int x2)], [], h) QQ) := by
  refine G_279.partial_correctness _ (motive := fun lab xs ys zs c12 r =>
    (∀ (x1 : Int32) (x2 : Int32), lab = 0 → xs = [x1, x2] → ys = [] → zs = [] → ∀ h : UH, HW (mkw c0 c1 c2 c3 c4 c5 c6 c7 c8 c9 c10 c11 c12 c13) d h → ∀ QQ : UR → Prop, (∀ h' : UH, HW (mkw c0 c1 c2 c3 c4 c5 c6 c7 c8 c9 c10 c11 r c13) d h' → QQ (none, h')) → Ends (EX D) (u_at kl_279) (5, [some (.ref a0), some (.int x1), some (.int x2)], [], h) QQ) ∧
    (∀ (x1 : Int32) (x2 : Int32), lab = 1 → xs = [x1, x2] → ys = [] → zs = [] → ∀ h : UH, HW (mkw c0 c1 c2 c3 c4 c5 c6 c7 c8 c9 c10 c11 c12 c13) d h → ∀ QQ : UR → Prop, (∀ h' : UH, HW (mkw c0 c1 c2 c3 c4 c5 c6 c7 c8 c9 c10 c11 r c13) d h' → QQ (none, h')) → Ends (EX D) (u_at kl_279) (41, [some (.ref a0), some (.int x1), some (.int x2)], [], h) QQ)) ?_
  intro G ih lab xs ys zs c12 r hF
  refine ⟨?_, ?_⟩
  · intro x1 x2 e1 e2 e3 e4 h hW QQ hQ
    subst e1 e2 e3 e4
    refine en_segs [(5, .iload_n 2, [])] (by decide +kernel) (y := (6, [some (.ref a0), some (.int x1), some (.int x2)], [.int x2], h)) rfl ?_
    refine en_if_le (by decide +kernel : u_at kl_279 6 = some (.ifCond .le 35, [41])) (fun b1 => ?_) (fun b1 => ?_)
    · replace hF := i_pos b1 hF
      exact (ih _ _ _ _ _ _ hF).2 _ _ rfl rfl rfl rfl  _ hW _ hQ
    · replace hF := i_neg b1 hF
      refine en_segs [(9, .aload_n 0, [])] (by decide +kernel) (y := (10, [some (.ref a0), some (.int x1), some (.int x2)], [.ref a0], h)) rfl ?_
      refine en_get (by decide +kernel : u_at kl_279 10 = some (.getfield 86, [12, 38])) hW ha0 (by decide) rfl ?_
      refine en_segs [(13, .iload_n 2, []), (14, .iconst 1, []), (15, .isub, [])] (by decide +kernel) (y := (16, [some (.ref a0), some (.int x1), some (.int x2)], [.int (x2 - 1), .ref (aP d 12 38 a0)], h)) rfl ?_
      obtain ⟨v2, hv2, hF⟩ := ob_some hF
      refine en_iald (by decide +kernel : u_at kl_279 16 = some (.iaload, [])) hW ha0 rfl (by decide) hv2 ?_
      refine en_segs [(17, .iload_n 1, [])] (by decide +kernel) (y := (18, [some (.ref a0), some (.int x1), some (.int x2)], [.int x1, .int v2], h)) rfl ?_
      refine en_ic_le (by decide +kernel : u_at kl_279 18 = some (.if_icmp .le 23, [41])) (fun b3 => ?_) (fun b3 => ?_)
      · replace hF := i_pos b3 hF
        exact (ih _ _ _ _ _ _ hF).2 _ _ rfl rfl rfl rfl  _ hW _ hQ
      · replace hF := i_neg b3 hF
        refine en_segs [(21, .aload_n 0, [])] (by decide +kernel) (y := (22, [some (.ref a0), some (.int x1), some (.int x2)], [.ref a0], h)) rfl ?_
        refine en_get (by decide +kernel : u_at kl_279 22 = some (.getfield 86, [12, 38])) hW ha0 (by decide) rfl ?_
        refine en_segs [(25, .iload_n 2, []), (26, .aload_n 0, [])] (by decide +kernel) (y := (27, [some (.ref a0), some (.int x1), some (.int x2)], [.ref a0, .int x2, .ref (aP d 12 38 a0)], h)) rfl ?_
        refine en_get (by decide +kernel : u_at kl_279 27 = some (.getfield 86, [12, 38])) hW ha0 (by decide) rfl ?_
        refine en_segs [(30, .iload_n 2, []), (31, .iconst 1, []), (32, .isub, [])] (by decide +kernel) (y := (33, [some (.ref a0), some (.int x1), some (.int x2)], [.int (x2 - 1), .ref (aP d 12 38 a0), .int x2, .ref (aP d 12 38 a0)], h)) rfl ?_
        obtain ⟨v4, hv4, hF⟩ := ob_some hF
        refine en_iald (by decide +kernel : u_at kl_279 33 = some (.iaload, [])) hW ha0 rfl (by decide) hv4 ?_
        obtain ⟨c12_5, hc12_5, hF⟩ := ob_some hF
        refine en_iast (by decide +kernel : u_at kl_279 34 = some (.iastore, [])) hW ha0 rfl (by decide) hc12_5 (fun h hW => ?_)
        have hW : HW (mkw c0 c1 c2 c3 c4 c5 c6 c7 c8 c9 c10 c11 c12_5 c13) d h := hW
        refine en_segs [(35, .iinc 2 (-1), []), (38, .goto (-33), [5])] (by decide +kernel) (y := (5, [some (.ref a0), some (.int x1), some (.int (x2 + (-1)))], [], h)) rfl ?_
        exact (ih _ _ _ _ _ _ hF).1 _ _ rfl rfl rfl rfl  _ hW _ hQ
  · intro x1 x2 e1 e2 e3 e4 h hW QQ hQ
    subst e1 e2 e3 e4
    refine en_segs [(41, .aload_n 0, [])] (by decide +kernel) (y := (42, [some (.ref a0), some (.int x1), some (.int x2)], [.ref a0], h)) rfl ?_
    refine en_get (by decide +kernel : u_at kl_279 42 = some (.getfield 86, [12, 38])) hW ha0 (by decide) rfl ?_
    refine en_segs [(45, .iload_n 2, []), (46, .iload_n 1, [])] (by decide +kernel) (y := (47, [some (.ref a0), some (.int x1), some (.int x2)], [.int x1, .int x2, .ref (aP d 12 38 a0)], h)) rfl ?_
    obtain ⟨c12_6, hc12_6, hF⟩ := ob_some hF
    refine en_iast (by decide +kernel : u_at kl_279 47 = some (.iastore, [])) hW ha0 rfl (by decide) hc12_6 (fun h hW => ?_)
    have hW : HW (mkw c0 c1 c2 c3 c4 c5 c6 c7 c8 c9 c10 c11 c12_6 c13) d h := hW
    refine en_segs [(48, .aload_n 0, []), (49, .dup, [])] (by decide +kernel) (y := (50, [some (.ref a0), some (.int x1), some (.int x2)], [.ref a0, .ref a0], h)) rfl ?_
    refine en_get (by decide +kernel : u_at kl_279 50 = some (.getfield 496, [12, 39])) hW ha0 (by decide) rfl ?_
    refine en_segs [(53, .iconst 1, []), (54, .iadd, [])] (by decide +kernel) (y := (55, [some (.ref a0), some (.int x1), some (.int x2)], [.int ((cI c12_6 39 a0) + 1), .ref a0], h)) rfl ?_
    obtain ⟨c12_7, hc12_7, hF⟩ := ob_some hF
    refine en_putI (by decide +kernel : u_at kl_279 55 = some (.putfield 496, [12, 39, 0])) hW ha0 rfl (by decide) rfl (fun h hW => ?_)
    have hW : HW (mkw c0 c1 c2 c3 c4 c5 c6 c7 c8 c9 c10 c11 c12_7 c13) d h := by rw [← Option.some.inj hc12_7]; exact hW
    obtain rfl := Option.some.inj hF
    exact en_ret (by decide +kernel : u_at kl_279 58 = some (.return_, [])) rfl (hQ _ hW)
def F_279 (c12 : Cl) (a0 : Nat) (p1 : Int32) : Option Cl :=
  G_279 a0 0 [p1, cI c12 39 a0] [] [] c12
set_option maxRecDepth 100000 in
set_option maxHeartbeats 4000000 in
/-- HeadCountsModel.putsLead -/
theorem e_279 {D : Nat} {c0 c1 c2 c3 c4 c5 c6 c7 c8 c9 c10 c11 c12 c13 : Cl} {d : Ad} {h : UH} {a0 : Nat} {p1 : Int32} {r : Cl} (hD : 1 ≤ D) (hW : HW (mkw c0 c1 c2 c3 c4 c5 c6 c7 c8 c9 c10 c11 c12 c13) d h) (ha0 : aK d a0 = (0, 12, 0)) (hF : F_279 c12 a0 p1 = some r) : ∃ q, EX D 279 [.ref a0, .int p1] h q ∧ q.1 = none ∧ HW (mkw c0 c1 c2 c3 c4 c5 c6 c7 c8 c9 c10 c11 r c13) d q.2 := by
  obtain ⟨D, rfl⟩ : ∃ E, D = E + 1 := ⟨D - 1, by omega⟩
  unfold F_279 at hF
  refine ex_in (kl := kl_279) (nL := 3) rfl (by decide +kernel) (Nat.le_of_ble_eq_true rfl) ?_
  obtain ⟨QQ, hQQ⟩ : ∃ QQ : UR → Prop, QQ = (fun q : UR => q.1 = none ∧ HW (mkw c0 c1 c2 c3 c4 c5 c6 c7 c8 c9 c10 c11 r c13) d q.2) := ⟨_, rfl⟩
  rw [← hQQ]
  have hQ : ∀ h' : UH, HW (mkw c0 c1 c2 c3 c4 c5 c6 c7 c8 c9 c10 c11 r c13) d h' → QQ (none, h') := fun h' p => by rw [hQQ]; exact ⟨rfl, p⟩
  clear hQQ
  show Ends (EX D) (u_at kl_279) (0, [some (.ref a0), some (.int p1), none], [], h) QQ
  refine en_segs [(0, .aload_n 0, [])] (by decide +kernel) (y := (1, [some (.ref a0), some (.int p1), none], [.ref a0], h)) rfl ?_
  refine en_get (by decide +kernel : u_at kl_279 1 = some (.getfield 496, [12, 39])) hW ha0 (by decide) rfl ?_
  refine en_segs [(4, .istore_n 2, [])] (by decide +kernel) (y := (5, [some (.ref a0), some (.int p1), some (.int (cI c12 39 a0))], [], h)) rfl ?_
  exact (g_279 (D := D) hD ha0 _ _ _ _ _ _ hF).1 _ _ rfl rfl rfl rfl  _ hW _ hQ
def G_280 (a0 : Nat) (lab : Nat) (xs : List Int32) (ys : List Int64) (zs : List Nat) (c12 : Cl) : Option Cl := match lab, xs, ys, zs with
  | 0, [x1, x2], [], [] =>
    ald (cA c12 20 a0) 221 2 >>= fun v3 =>
    if v3 ≤ x2 then
    some c12
    else
    G_280 a0 1 [x1, x2, 0] [] [] c12
  | 1, [x1, x2, x3], [], [] =>
    ald (cA c12 20 a0) 221 0 >>= fun v5 =>
    if v5 ≤ x3 then
    G_280 a0 5 [x1, x2] [] [] c12
    else
    F_224 c12 a0 x2 >>= fun r7 =>
    if r7 = 0 then
    G_280 a0 5 [x1, x2] [] [] c12
    else
    ald (cA c12 32 a0) 6 x2 >>= fun v9 =>
    F_232 c12 a0 v9 >>= fun r10 =>
    F_171 r10 x3 >>= fun r11 =>
    if r11 = 0 then
    G_280 a0 1 [x1, x2, x3 + 1] [] [] c12
    else
    ast c12 24 a0 6 x2 x3 >>= fun c12_13 =>
    ald (cA c12_13 25 a0) 6 x2 >>= fun v14 =>
    ald (cA c12_13 32 a0) 6 x2 >>= fun v15 =>
    F_276 c12_13 a0 >>= fun r16 =>
    ((if r16 = 0 then
    some c12_13
    else
    F_279 c12_13 a0 (x1 + (v14 * (x3 - v15))) >>= fun r20 =>
    some r20) : Option (Cl)) >>= fun (t17 : Cl) =>
    G_280 a0 2 [x1, x2, x3, x1 + (v14 * (x3 - v15)), x2 + 1] [] [] t17
  | 2, [x1, x2, x3, x4, x5], [], [] =>
    ald (cA c12 20 a0) 221 2 >>= fun v23 =>
    if v23 ≤ x5 then
    G_280 a0 1 [x1, x2, x3 + 1] [] [] c12
    else
    G_280 a0 3 [x1, x2, x3, x4, x5, 0] [] [] c12
  | 3, [x1, x2, x3, x4, x5, x6], [], [] =>
    ald (cA c12 20 a0) 221 0 >>= fun v25 =>
    if v25 ≤ x6 then
    G_280 a0 4 [x1, x2, x3, x4, x5] [] [] c12
    else
    F_224 c12 a0 x5 >>= fun r27 =>
    if r27 = 0 then
    G_280 a0 4 [x1, x2, x3, x4, x5] [] [] c12
    else
    ald (cA c12 32 a0) 6 x5 >>= fun v29 =>
    F_232 c12 a0 v29 >>= fun r30 =>
    F_171 r30 x6 >>= fun r31 =>
    ((if r31 = 0 then
    some c12
    else
    ast c12 24 a0 6 x5 x6 >>= fun c12_35 =>
    F_276 c12_35 a0 >>= fun r36 =>
    if r36 = 0 then
    some c12_35
    else
    ald (cA c12_35 25 a0) 6 x5 >>= fun v38 =>
    ald (cA c12_35 32 a0) 6 x5 >>= fun v39 =>
    F_279 c12_35 a0 (x4 + (v38 * (x6 - v39))) >>= fun r40 =>
    some r40) : Option (Cl)) >>= fun (t32 : Cl) =>
    G_280 a0 3 [x1, x2, x3, x4, x5, x6 + 1] [] [] t32
  | 4, [x1, x2, x3, x4, x5], [], [] =>
    ald (cA c12 32 a0) 6 x5 >>= fun v41 =>
    ast c12 24 a0 6 x5 v41 >>= fun c12_42 =>
    G_280 a0 2 [x1, x2, x3, x4, x5 + 1] [] [] c12_42
  | 5, [x1, x2], [], [] =>
    ald (cA c12 32 a0) 6 x2 >>= fun v21 =>
    ast c12 24 a0 6 x2 v21 >>= fun c12_22 =>
    G_280 a0 0 [x1, x2 + 1] [] [] c12_22
  | _, _, _, _ => none
partial_fixpoint
set_option maxRecDepth 100000 in
set_option maxHeartbeats 4000000 in
theorem g_280 {D : Nat} (hD : 5 ≤ D + 1) {c0 c1 c2 c3 c4 c5 c6 c7 c8 c9 c10 c11 c13 : Cl} {d : Ad} {a0 : Nat} (ha0 : aK d a0 = (0, 12, 0)) : ∀ (lab : Nat) (xs : List Int32) (ys : List Int64) (zs : List Nat) (c12 : Cl) (r : Cl), G_280 a0 lab xs ys zs c12 = some r →
    (∀ (x1 : Int32) (x2 : Int32), lab = 0 → xs = [x1, x2] → ys = [] → zs = [] → ∀ h : UH, HW (mkw c0 c1 c2 c3 c4 c5 c6 c7 c8 c9 c10 c11 c12 c13) d h → ∀ QQ : UR → Prop, (∀ h' : UH, HW (mkw c0 c1 c2 c3 c4 c5 c6 c7 c8 c9 c10 c11 r c13) d h' → QQ (none, h')) → Ends (EX D) (u_at kl_280) (12, [some (.ref a0), some (.int x1), some (.int x2), none, none, none, none], [], h) QQ) ∧
    (∀ (x1 : Int32) (x2 : Int32) (x3 : Int32), lab = 1 → xs = [x1, x2, x3] → ys = [] → zs = [] → ∀ h : UH, HW (mkw c0 c1 c2 c3 c4 c5 c6 c7 c8 c9 c10 c11 c12 c13) d h → ∀ QQ : UR → Prop, (∀ h' : UH, HW (mkw c0 c1 c2 c3 c4 c5 c6 c7 c8 c9 c10 c11 r c13) d h' → QQ (none, h')) → Ends (EX D) (u_at kl_280) (24, [some (.ref a0), some (.int x1), some (.int x2), some (.int x3), none, none, none], [], h) QQ) ∧
    (∀ (x1 : Int32) (x2 : Int32) (x3 : Int32) (x4 : Int32) (x5 : Int32), lab = 2 → xs = [x1, x2, x3, x4, x5] → ys = [] → zs = [] → ∀ h : UH, HW (mkw c0 c1 c2 c3 c4 c5 c6 c7 c8 c9 c10 c11 c12 c13) d h → ∀ QQ : UR → Prop, (∀ h' : UH, HW (mkw c0 c1 c2 c3 c4 c5 c6 c7 c8 c9 c10 c11 r c13) d h' → QQ (none, h')) → Ends (EX D) (u_at kl_280) (106, [some (.ref a0), some (.int x1), some (.int x2), some (.int x3), some (.int x4), some (.int x5), none], [], h) QQ) ∧
    (∀ (x1 : Int32) (x2 : Int32) (x3 : Int32) (x4 : Int32) (x5 : Int32) (x6 : Int32), lab = 3 → xs = [x1, x2, x3, x4, x5, x6] → ys = [] → zs = [] → ∀ h : UH, HW (mkw c0 c1 c2 c3 c4 c5 c6 c7 c8 c9 c10 c11 c12 c13) d h → ∀ QQ : UR → Prop, (∀ h' : UH, HW (mkw c0 c1 c2 c3 c4 c5 c6 c7 c8 c9 c10 c11 r c13) d h' → QQ (none, h')) → Ends (EX D) (u_at kl_280) (120, [some (.ref a0), some (.int x1), some (.int x2), some (.int x3), some (.int x4), some (.int x5), some (.int x6)], [], h) QQ) ∧
    (∀ (x1 : Int32) (x2 : Int32) (x3 : Int32) (x4 : Int32) (x5 : Int32), lab = 4 → xs = [x1, x2, x3, x4, x5] → ys = [] → zs = [] → ∀ h : UH, HW (mkw c0 c1 c2 c3 c4 c5 c6 c7 c8 c9 c10 c11 c12 c13) d h → ∀ QQ : UR → Prop, (∀ h' : UH, HW (mkw c0 c1 c2 c3 c4 c5 c6 c7 c8 c9 c10 c11 r c13) d h' → QQ (none, h')) → Ends (EX D) (u_at kl_280) (209, [some (.ref a0), some (.int x1), some (.int x2), some (.int x3), some (.int x4), some (.int x5), none], [], h) QQ) ∧
    (∀ (x1 : Int32) (x2 : Int32), lab = 5 → xs = [x1, x2] → ys = [] → zs = [] → ∀ h : UH, HW (mkw c0 c1 c2 c3 c4 c5 c6 c7 c8 c9 c10 c11 c12 c13) d h → ∀ QQ : UR → Prop, (∀ h' : UH, HW (mkw c0 c1 c2 c3 c4 c5 c6 c7 c8 c9 c10 c11 r c13) d h' → QQ (none, h')) → Ends (EX D) (u_at kl_280) (235, [some (.ref a0), some (.int x1), some (.int x2), none, none, none, none], [], h) QQ) := by
  refine G_280.partial_correctness _ (motive := fun lab xs ys zs c12 r =>
    (∀ (x1 : Int32) (x2 : Int32), lab = 0 → xs = [x1, x2] → ys = [] → zs = [] → ∀ h : UH, HW (mkw c0 c1 c2 c3 c4 c5 c6 c7 c8 c9 c10 c11 c12 c13) d h → ∀ QQ : UR → Prop, (∀ h' : UH, HW (mkw c0 c1 c2 c3 c4 c5 c6 c7 c8 c9 c10 c11 r c13) d h' → QQ (none, h')) → Ends (EX D) (u_at kl_280) (12, [some (.ref a0), some (.int x1), some (.int x2), none, none, none, none], [], h) QQ) ∧
    (∀ (x1 : Int32) (x2 : Int32) (x3 : Int32), lab = 1 → xs = [x1, x2, x3] → ys = [] → zs = [] → ∀ h : UH, HW (mkw c0 c1 c2 c3 c4 c5 c6 c7 c8 c9 c10 c11 c12 c13) d h → ∀ QQ : UR → Prop, (∀ h' : UH, HW (mkw c0 c1 c2 c3 c4 c5 c6 c7 c8 c9 c10 c11 r c13) d h' → QQ (none, h')) → Ends (EX D) (u_at kl_280) (24, [some (.ref a0), some (.int x1), some (.int x2), some (.int x3), none, none, none], [], h) QQ) ∧
    (∀ (x1 : Int32) (x2 : Int32) (x3 : Int32) (x4 : Int32) (x5 : Int32), lab = 2 → xs = [x1, x2, x3, x4, x5] → ys = [] → zs = [] → ∀ h : UH, HW (mkw c0 c1 c2 c3 c4 c5 c6 c7 c8 c9 c10 c11 c12 c13) d h → ∀ QQ : UR → Prop, (∀ h' : UH, HW (mkw c0 c1 c2 c3 c4 c5 c6 c7 c8 c9 c10 c11 r c13) d h' → QQ (none, h')) → Ends (EX D) (u_at kl_280) (106, [some (.ref a0), some (.int x1), some (.int x2), some (.int x3), some (.int x4), some (.int x5), none], [], h) QQ) ∧
    (∀ (x1 : Int32) (x2 : Int32) (x3 : Int32) (x4 : Int32) (x5 : Int32) (x6 : Int32), lab = 3 → xs = [x1, x2, x3, x4, x5, x6] → ys = [] → zs = [] → ∀ h : UH, HW (mkw c0 c1 c2 c3 c4 c5 c6 c7 c8 c9 c10 c11 c12 c13) d h → ∀ QQ : UR → Prop, (∀ h' : UH, HW (mkw c0 c1 c2 c3 c4 c5 c6 c7 c8 c9 c10 c11 r c13) d h' → QQ (none, h')) → Ends (EX D) (u_at kl_280) (120, [some (.ref a0), some (.int x1), some (.int x2), some (.int x3), some (.int x4), some (.int x5), some (.int x6)], [], h) QQ) ∧
    (∀ (x1 : Int32) (x2 : Int32) (x3 : Int32) (x4 : Int32) (x5 : Int32), lab = 4 → xs = [x1, x2, x3, x4, x5] → ys = [] → zs = [] → ∀ h : UH, HW (mkw c0 c1 c2 c3 c4 c5 c6 c7 c8 c9 c10 c11 c12 c13) d h → ∀ QQ : UR → Prop, (∀ h' : UH, HW (mkw c0 c1 c2 c3 c4 c5 c6 c7 c8 c9 c10 c11 r c13) d h' → QQ (none, h')) → Ends (EX D) (u_at kl_280) (209, [some (.ref a0), some (.int x1), some (.int x2), some (.int x3), some (.int x4), some (.int x5), none], [], h) QQ) ∧
    (∀ (x1 : Int32) (x2 : Int32), lab = 5 → xs = [x1, x2] → ys = [] → zs = [] → ∀ h : UH, HW (mkw c0 c1 c2 c3 c4 c5 c6 c7 c8 c9 c10 c11 c12 c13) d h → ∀ QQ : UR → Prop, (∀ h' : UH, HW (mkw c0 c1 c2 c3 c4 c5 c6 c7 c8 c9 c10 c11 r c13) d h' → QQ (none, h')) → Ends (EX D) (u_at kl_280) (235, [some (.ref a0), some (.int x1), some (.int x2), none, none, none, none], [], h) QQ)) ?_
  intro G ih lab xs ys zs c12 r hF
  refine ⟨?_, ?_, ?_, ?_, ?_, ?_⟩
  · intro x1 x2 e1 e2 e3 e4 h hW QQ hQ
    subst e1 e2 e3 e4
    refine en_segs [(12, .iload_n 2, []), (13, .aload_n 0, [])] (by decide +kernel) (y := (14, [some (.ref a0), some (.int x1), some (.int x2), none, none, none, none], [.ref a0, .int x2], h)) rfl ?_
    refine en_get (by decide +kernel : u_at kl_280 14 = some (.getfield 39, [12, 20])) hW ha0 (by decide) rfl ?_
    refine en_segs [(17, .iconst 2, [])] (by decide +kernel) (y := (18, [some (.ref a0), some (.int x1), some (.int x2), none, none, none, none], [.int 2, .ref (aP d 12 20 a0), .int x2], h)) rfl ?_
    obtain ⟨v3, hv3, hF⟩ := ob_some hF
    refine en_iald (by decide +kernel : u_at kl_280 18 = some (.iaload, [])) hW ha0 rfl (by decide) hv3 ?_
    refine en_ic_ge (by decide +kernel : u_at kl_280 19 = some (.if_icmp .ge 234, [253])) (fun b4 => ?_) (fun b4 => ?_)
    · replace hF := i_pos b4 hF
      obtain rfl := Option.some.inj hF
      exact en_ret (by decide +kernel : u_at kl_280 253 = some (.return_, [])) rfl (hQ _ hW)
    · replace hF := i_neg b4 hF
      refine en_segs [(22, .iconst 0, []), (23, .istore_n 3, [])] (by decide +kernel) (y := (24, [some (.ref a0), some (.int x1), some (.int x2), some (.int 0), none, none, none], [], h)) rfl ?_
      exact (ih _ _ _ _ _ _ hF).2.1 _ _ _ rfl rfl rfl rfl  _ hW _ hQ
  · intro x1 x2 x3 e1 e2 e3 e4 h hW QQ hQ
    subst e1 e2 e3 e4
    refine en_segs [(24, .iload_n 3, []), (25, .aload_n 0, [])] (by decide +kernel) (y := (26, [some (.ref a0), some (.int x1), some (.int x2), some (.int x3), none, none, none], [.ref a0, .int x3], h)) rfl ?_
    refine en_get (by decide +kernel : u_at kl_280 26 = some (.getfield 39, [12, 20])) hW ha0 (by decide) rfl ?_
    refine en_segs [(29, .iconst 0, [])] (by decide +kernel) (y := (30, [some (.ref a0), some (.int x1), some (.int x2), some (.int x3), none, none, none], [.int 0, .ref (aP d 12 20 a0), .int x3], h)) rfl ?_
    obtain ⟨v5, hv5, hF⟩ := ob_some hF
    refine en_iald (by decide +kernel : u_at kl_280 30 = some (.iaload, [])) hW ha0 rfl (by decide) hv5 ?_
    refine en_ic_ge (by decide +kernel : u_at kl_280 31 = some (.if_icmp .ge 204, [235])) (fun b6 => ?_) (fun b6 => ?_)
    · replace hF := i_pos b6 hF
      refine en_fg (fg_k (fg_k (fg_k (fg_d (fg_k (fg_k (fg_k fg_0))))))) ?_
      exact (ih _ _ _ _ _ _ hF).2.2.2.2.2 _ _ rfl rfl rfl rfl  _ hW _ hQ
    · replace hF := i_neg b6 hF
      refine en_segs [(34, .aload_n 0, []), (35, .iload_n 2, [])] (by decide +kernel) (y := (36, [some (.ref a0), some (.int x1), some (.int x2), some (.int x3), none, none, none], [.int x2, .ref a0], h)) rfl ?_
      obtain ⟨r7, hr7, hF⟩ := ob_some hF
      refine en_vi (r := []) (by decide +kernel : u_at kl_280 36 = some (.invokevirtual 346, [224, 1, 12])) hW ha0 rfl rfl (Nat.le_of_ble_eq_true rfl) (e_224 (D := D) (by omega) hW ha0 hr7) (fun h' q => ?_)
      subst q
      refine en_if_eq (by decide +kernel : u_at kl_280 39 = some (.ifCond .eq 196, [235])) (fun b8 => ?_) (fun b8 => ?_)
      · replace hF := i_pos b8 hF
        refine en_fg (fg_k (fg_k (fg_k (fg_d (fg_k (fg_k (fg_k fg_0))))))) ?_
        exact (ih _ _ _ _ _ _ hF).2.2.2.2.2 _ _ rfl rfl rfl rfl  _ hW _ hQ
      · replace hF := i_neg b8 hF
        refine en_segs [(42, .aload_n 0, []), (43, .aload_n 0, [])] (by decide +kernel) (y := (44, [some (.ref a0), some (.int x1), some (.int x2), some (.int x3), none, none, none], [.ref a0, .ref a0], h)) rfl ?_
        refine en_get (by decide +kernel : u_at kl_280 44 = some (.getfield 67, [12, 32])) hW ha0 (by decide) rfl ?_
        refine en_segs [(47, .iload_n 2, [])] (by decide +kernel) (y := (48, [some (.ref a0), some (.int x1), some (.int x2), some (.int x3), none, none, none], [.int x2, .ref (aP d 12 32 a0), .ref a0], h)) rfl ?_
        obtain ⟨v9, hv9, hF⟩ := ob_some hF
        refine en_iald (by decide +kernel : u_at kl_280 48 = some (.iaload, [])) hW ha0 rfl (by decide) hv9 ?_
        obtain ⟨r10, hr10, hF⟩ := ob_some hF
        refine en_vi (r := []) (by decide +kernel : u_at kl_280 49 = some (.invokevirtual 378, [232, 1, 12])) hW ha0 rfl rfl (Nat.le_of_ble_eq_true rfl) (e_232 (D := D) (by omega) hW ha0 hr10) (fun h' q => ?_)
        subst q
        refine en_segs [(52, .iload_n 3, [])] (by decide +kernel) (y := (53, [some (.ref a0), some (.int x1), some (.int x2), some (.int x3), none, none, none], [.int x3, .int r10], h)) rfl ?_
        obtain ⟨r11, hr11, hF⟩ := ob_some hF
        refine en_si (r := []) (by decide +kernel : u_at kl_280 53 = some (.invokestatic 361, [171, 2])) rfl rfl (Nat.le_of_ble_eq_true rfl) (e_171 (D := D) (by omega) hW hr11) (fun h' q => ?_)
        subst q
        refine en_if_ne (by decide +kernel : u_at kl_280 56 = some (.ifCond .ne 6, [62])) (fun b12 => ?_) (fun b12 => ?_)
        · replace hF := i_pos b12 hF
          refine en_segs [(59, .goto 170, [229]), (229, .iinc 3 1, []), (232, .goto (-208), [24])] (by decide +kernel) (y := (24, [some (.ref a0), some (.int x1), some (.int x2), some (.int (x3 + 1)), none, none, none], [], h)) rfl ?_
          exact (ih _ _ _ _ _ _ hF).2.1 _ _ _ rfl rfl rfl rfl  _ hW _ hQ
        · replace hF := i_neg b12 hF
          refine en_segs [(62, .aload_n 0, [])] (by decide +kernel) (y := (63, [some (.ref a0), some (.int x1), some (.int x2), some (.int x3), none, none, none], [.ref a0], h)) rfl ?_
          refine en_get (by decide +kernel : u_at kl_280 63 = some (.getfield 45, [12, 24])) hW ha0 (by decide) rfl ?_
          refine en_segs [(66, .iload_n 2, []), (67, .iload_n 3, [])] (by decide +kernel) (y := (68, [some (.ref a0), some (.int x1), some (.int x2), some (.int x3), none, none, none], [.int x3, .int x2, .ref (aP d 12 24 a0)], h)) rfl ?_
          obtain ⟨c12_13, hc12_13, hF⟩ := ob_some hF
          refine en_iast (by decide +kernel : u_at kl_280 68 = some (.iastore, [])) hW ha0 rfl (by decide) hc12_13 (fun h hW => ?_)
          have hW : HW (mkw c0 c1 c2 c3 c4 c5 c6 c7 c8 c9 c10 c11 c12_13 c13) d h := hW
          refine en_segs [(69, .iload_n 1, []), (70, .aload_n 0, [])] (by decide +kernel) (y := (71, [some (.ref a0), some (.int x1), some (.int x2), some (.int x3), none, none, none], [.ref a0, .int x1], h)) rfl ?_
          refine en_get (by decide +kernel : u_at kl_280 71 = some (.getfield 48, [12, 25])) hW ha0 (by decide) rfl ?_
          refine en_segs [(74, .iload_n 2, [])] (by decide +kernel) (y := (75, [some (.ref a0), some (.int x1), some (.int x2), some (.int x3), none, none, none], [.int x2, .ref (aP d 12 25 a0), .int x1], h)) rfl ?_
          obtain ⟨v14, hv14, hF⟩ := ob_some hF
          refine en_iald (by decide +kernel : u_at kl_280 75 = some (.iaload, [])) hW ha0 rfl (by decide) hv14 ?_
          refine en_segs [(76, .iload_n 3, []), (77, .aload_n 0, [])] (by decide +kernel) (y := (78, [some (.ref a0), some (.int x1), some (.int x2), some (.int x3), none, none, none], [.ref a0, .int x3, .int v14, .int x1], h)) rfl ?_
          refine en_get (by decide +kernel : u_at kl_280 78 = some (.getfield 67, [12, 32])) hW ha0 (by decide) rfl ?_
          refine en_segs [(81, .iload_n 2, [])] (by decide +kernel) (y := (82, [some (.ref a0), some (.int x1), some (.int x2), some (.int x3), none, none, none], [.int x2, .ref (aP d 12 32 a0), .int x3, .int v14, .int x1], h)) rfl ?_
          obtain ⟨v15, hv15, hF⟩ := ob_some hF
          refine en_iald (by decide +kernel : u_at kl_280 82 = some (.iaload, [])) hW ha0 rfl (by decide) hv15 ?_
          refine en_segs [(83, .isub, []), (84, .imul, []), (85, .iadd, []), (86, .istore 4, []), (88, .aload_n 0, [])] (by decide +kernel) (y := (89, [some (.ref a0), some (.int x1), some (.int x2), some (.int x3), some (.int (x1 + (v14 * (x3 - v15)))), none, none], [.ref a0], h)) rfl ?_
          obtain ⟨r16, hr16, hF⟩ := ob_some hF
          refine en_vi (r := []) (by decide +kernel : u_at kl_280 89 = some (.invokevirtual 493, [276, 0, 12])) hW ha0 rfl rfl (Nat.le_of_ble_eq_true rfl) (e_276 (D := D) (by omega) hW ha0 hr16) (fun h' q => ?_)
          subst q
          obtain ⟨t17, hX, hK⟩ := ob_some hF
          have j18 : ∀ h : UH, HW (mkw c0 c1 c2 c3 c4 c5 c6 c7 c8 c9 c10 c11 t17 c13) d h → Ends (EX D) (u_at kl_280) (101, [some (.ref a0), some (.int x1), some (.int x2), some (.int x3), some (.int (x1 + (v14 * (x3 - v15)))), none, none], [], h) QQ := by
            intro h hW
            have hF := hK
            refine en_segs [(101, .iload_n 2, []), (102, .iconst 1, []), (103, .iadd, []), (104, .istore 5, [])] (by decide +kernel) (y := (106, [some (.ref a0), some (.int x1), some (.int x2), some (.int x3), some (.int (x1 + (v14 * (x3 - v15)))), some (.int (x2 + 1)), none], [], h)) rfl ?_
            exact (ih _ _ _ _ _ _ hF).2.2.1 _ _ _ _ _ rfl rfl rfl rfl  _ hW _ hQ
          have hF := hX
          refine en_if_eq (by decide +kernel : u_at kl_280 92 = some (.ifCond .eq 9, [101])) (fun b19 => ?_) (fun b19 => ?_)
          · replace hF := i_pos b19 hF
            obtain rfl := Option.some.inj hF
            exact j18 _ hW
          · replace hF := i_neg b19 hF
            refine en_segs [(95, .aload_n 0, []), (96, .iload 4, [])] (by decide +kernel) (y := (98, [some (.ref a0), some (.int x1), some (.int x2), some (.int x3), some (.int (x1 + (v14 * (x3 - v15)))), none, none], [.int (x1 + (v14 * (x3 - v15))), .ref a0], h)) rfl ?_
            obtain ⟨r20, hr20, hF⟩ := ob_some hF
            refine en_vv (r := []) (by decide +kernel : u_at kl_280 98 = some (.invokevirtual 499, [279, 1, 12])) hW ha0 rfl rfl (Nat.le_of_ble_eq_true rfl) (e_279 (D := D) (by omega) hW ha0 hr20) (fun h hW => ?_)
            have hW : HW (mkw c0 c1 c2 c3 c4 c5 c6 c7 c8 c9 c10 c11 r20 c13) d h := hW
            obtain rfl := Option.some.inj hF
            exact j18 _ hW
  · intro x1 x2 x3 x4 x5 e1 e2 e3 e4 h hW QQ hQ
    subst e1 e2 e3 e4
    refine en_segs [(106, .iload 5, []), (108, .aload_n 0, [])] (by decide +kernel) (y := (109, [some (.ref a0), some (.int x1), some (.int x2), some (.int x3), some (.int x4), some (.int x5), none], [.ref a0, .int x5], h)) rfl ?_
    refine en_get (by decide +kernel : u_at kl_280 109 = some (.getfield 39, [12, 20])) hW ha0 (by decide) rfl ?_
    refine en_segs [(112, .iconst 2, [])] (by decide +kernel) (y := (113, [some (.ref a0), some (.int x1), some (.int x2), some (.int x3), some (.int x4), some (.int x5), none], [.int 2, .ref (aP d 12 20 a0), .int x5], h)) rfl ?_
    obtain ⟨v23, hv23, hF⟩ := ob_some hF
    refine en_iald (by decide +kernel : u_at kl_280 113 = some (.iaload, [])) hW ha0 rfl (by decide) hv23 ?_
    refine en_ic_ge (by decide +kernel : u_at kl_280 114 = some (.if_icmp .ge 115, [229])) (fun b24 => ?_) (fun b24 => ?_)
    · replace hF := i_pos b24 hF
      refine en_segs [(229, .iinc 3 1, []), (232, .goto (-208), [24])] (by decide +kernel) (y := (24, [some (.ref a0), some (.int x1), some (.int x2), some (.int (x3 + 1)), some (.int x4), some (.int x5), none], [], h)) rfl ?_
      refine en_fg (fg_k (fg_k (fg_k (fg_k (fg_d (fg_d (fg_k fg_0))))))) ?_
      exact (ih _ _ _ _ _ _ hF).2.1 _ _ _ rfl rfl rfl rfl  _ hW _ hQ
    · replace hF := i_neg b24 hF
      refine en_segs [(117, .iconst 0, []), (118, .istore 6, [])] (by decide +kernel) (y := (120, [some (.ref a0), some (.int x1), some (.int x2), some (.int x3), some (.int x4), some (.int x5), some (.int 0)], [], h)) rfl ?_
      exact (ih _ _ _ _ _ _ hF).2.2.2.1 _ _ _ _ _ _ rfl rfl rfl rfl  _ hW _ hQ
  · intro x1 x2 x3 x4 x5 x6 e1 e2 e3 e4 h hW QQ hQ
    subst e1 e2 e3 e4
    refine en_segs [(120, .iload 6, []), (122, .aload_n 0, [])] (by decide +kernel) (y := (123, [some (.ref a0), some (.int x1), some (.int x2), some (.int x3), some (.int x4), some (.int x5), some (.int x6)], [.ref a0, .int x6], h)) rfl ?_
    refine en_get (by decide +kernel : u_at kl_280 123 = some (.getfield 39, [12, 20])) hW ha0 (by decide) rfl ?_
    refine en_segs [(126, .iconst 0, [])] (by decide +kernel) (y := (127, [some (.ref a0), some (.int x1), some (.int x2), some (.int x3), some (.int x4), some (.int x5), some (.int x6)], [.int 0, .ref (aP d 12 20 a0), .int x6], h)) rfl ?_
    obtain ⟨v25, hv25, hF⟩ := ob_some hF
    refine en_iald (by decide +kernel : u_at kl_280 127 = some (.iaload, [])) hW ha0 rfl (by decide) hv25 ?_
    refine en_ic_ge (by decide +kernel : u_at kl_280 128 = some (.if_icmp .ge 81, [209])) (fun b26 => ?_) (fun b26 => ?_)
    · replace hF := i_pos b26 hF
      refine en_fg (fg_k (fg_k (fg_k (fg_k (fg_k (fg_k (fg_d fg_0))))))) ?_
      exact (ih _ _ _ _ _ _ hF).2.2.2.2.1 _ _ _ _ _ rfl rfl rfl rfl  _ hW _ hQ
    · replace hF := i_neg b26 hF
      refine en_segs [(131, .aload_n 0, []), (132, .iload 5, [])] (by decide +kernel) (y := (134, [some (.ref a0), some (.int x1), some (.int x2), some (.int x3), some (.int x4), some (.int x5), some (.int x6)], [.int x5, .ref a0], h)) rfl ?_
      obtain ⟨r27, hr27, hF⟩ := ob_some hF
      refine en_vi (r := []) (by decide +kernel : u_at kl_280 134 = some (.invokevirtual 346, [224, 1, 12])) hW ha0 rfl rfl (Nat.le_of_ble_eq_true rfl) (e_224 (D := D) (by omega) hW ha0 hr27) (fun h' q => ?_)
      subst q
      refine en_if_eq (by decide +kernel : u_at kl_280 137 = some (.ifCond .eq 72, [209])) (fun b28 => ?_) (fun b28 => ?_)
      · replace hF := i_pos b28 hF
        refine en_fg (fg_k (fg_k (fg_k (fg_k (fg_k (fg_k (fg_d fg_0))))))) ?_
        exact (ih _ _ _ _ _ _ hF).2.2.2.2.1 _ _ _ _ _ rfl rfl rfl rfl  _ hW _ hQ
      · replace hF := i_neg b28 hF
        refine en_segs [(140, .aload_n 0, []), (141, .aload_n 0, [])] (by decide +kernel) (y := (142, [some (.ref a0), some (.int x1), some (.int x2), some (.int x3), some (.int x4), some (.int x5), some (.int x6)], [.ref a0, .ref a0], h)) rfl ?_
        refine en_get (by decide +kernel : u_at kl_280 142 = some (.getfield 67, [12, 32])) hW ha0 (by decide) rfl ?_
        refine en_segs [(145, .iload 5, [])] (by decide +kernel) (y := (147, [some (.ref a0), some (.int x1), some (.int x2), some (.int x3), some (.int x4), some (.int x5), some (.int x6)], [.int x5, .ref (aP d 12 32 a0), .ref a0], h)) rfl ?_
        obtain ⟨v29, hv29, hF⟩ := ob_some hF
        refine en_iald (by decide +kernel : u_at kl_280 147 = some (.iaload, [])) hW ha0 rfl (by decide) hv29 ?_
        obtain ⟨r30, hr30, hF⟩ := ob_some hF
        refine en_vi (r := []) (by decide +kernel : u_at kl_280 148 = some (.invokevirtual 378, [232, 1, 12])) hW ha0 rfl rfl (Nat.le_of_ble_eq_true rfl) (e_232 (D := D) (by omega) hW ha0 hr30) (fun h' q => ?_)
        subst q
        refine en_segs [(151, .iload 6, [])] (by decide +kernel) (y := (153, [some (.ref a0), some (.int x1), some (.int x2), some (.int x3), some (.int x4), some (.int x5), some (.int x6)], [.int x6, .int r30], h)) rfl ?_
        obtain ⟨r31, hr31, hF⟩ := ob_some hF
        refine en_si (r := []) (by decide +kernel : u_at kl_280 153 = some (.invokestatic 361, [171, 2])) rfl rfl (Nat.le_of_ble_eq_true rfl) (e_171 (D := D) (by omega) hW hr31) (fun h' q => ?_)
        subst q
        obtain ⟨t32, hX, hK⟩ := ob_some hF
        have j33 : ∀ h : UH, HW (mkw c0 c1 c2 c3 c4 c5 c6 c7 c8 c9 c10 c11 t32 c13) d h → Ends (EX D) (u_at kl_280) (203, [some (.ref a0), some (.int x1), some (.int x2), some (.int x3), some (.int x4), some (.int x5), some (.int x6)], [], h) QQ := by
          intro h hW
          have hF := hK
          refine en_segs [(203, .iinc 6 1, []), (206, .goto (-86), [120])] (by decide +kernel) (y := (120, [some (.ref a0), some (.int x1), some (.int x2), some (.int x3), some (.int x4), some (.int x5), some (.int (x6 + 1))], [], h)) rfl ?_
          exact (ih _ _ _ _ _ _ hF).2.2.2.1 _ _ _ _ _ _ rfl rfl rfl rfl  _ hW _ hQ
        have hF := hX
        refine en_if_ne (by decide +kernel : u_at kl_280 156 = some (.ifCond .ne 6, [162])) (fun b34 => ?_) (fun b34 => ?_)
        · replace hF := i_pos b34 hF
          refine en_segs [(159, .goto 44, [203])] (by decide +kernel) (y := (203, [some (.ref a0), some (.int x1), some (.int x2), some (.int x3), some (.int x4), some (.int x5), some (.int x6)], [], h)) rfl ?_
          obtain rfl := Option.some.inj hF
          exact j33 _ hW
        · replace hF := i_neg b34 hF
          refine en_segs [(162, .aload_n 0, [])] (by decide +kernel) (y := (163, [some (.ref a0), some (.int x1), some (.int x2), some (.int x3), some (.int x4), some (.int x5), some (.int x6)], [.ref a0], h)) rfl ?_
          refine en_get (by decide +kernel : u_at kl_280 163 = some (.getfield 45, [12, 24])) hW ha0 (by decide) rfl ?_
          refine en_segs [(166, .iload 5, []), (168, .iload 6, [])] (by decide +kernel) (y := (170, [some (.ref a0), some (.int x1), some (.int x2), some (.int x3), some (.int x4), some (.int x5), some (.int x6)], [.int x6, .int x5, .ref (aP d 12 24 a0)], h)) rfl ?_
          obtain ⟨c12_35, hc12_35, hF⟩ := ob_some hF
          refine en_iast (by decide +kernel : u_at kl_280 170 = some (.iastore, [])) hW ha0 rfl (by decide) hc12_35 (fun h hW => ?_)
          have hW : HW (mkw c0 c1 c2 c3 c4 c5 c6 c7 c8 c9 c10 c11 c12_35 c13) d h := hW
          refine en_segs [(171, .aload_n 0, [])] (by decide +kernel) (y := (172, [some (.ref a0), some (.int x1), some (.int x2), some (.int x3), some (.int x4), some (.int x5), some (.int x6)], [.ref a0], h)) rfl ?_
          obtain ⟨r36, hr36, hF⟩ := ob_some hF
          refine en_vi (r := []) (by decide +kernel : u_at kl_280 172 = some (.invokevirtual 493, [276, 0, 12])) hW ha0 rfl rfl (Nat.le_of_ble_eq_true rfl) (e_276 (D := D) (by omega) hW ha0 hr36) (fun h' q => ?_)
          subst q
          refine en_if_eq (by decide +kernel : u_at kl_280 175 = some (.ifCond .eq 28, [203])) (fun b37 => ?_) (fun b37 => ?_)
          · replace hF := i_pos b37 hF
            obtain rfl := Option.some.inj hF
            exact j33 _ hW
          · replace hF := i_neg b37 hF
            refine en_segs [(178, .aload_n 0, []), (179, .iload 4, []), (181, .aload_n 0, [])] (by decide +kernel) (y := (182, [some (.ref a0), some (.int x1), some (.int x2), some (.int x3), some (.int x4), some (.int x5), some (.int x6)], [.ref a0, .int x4, .ref a0], h)) rfl ?_
            refine en_get (by decide +kernel : u_at kl_280 182 = some (.getfield 48, [12, 25])) hW ha0 (by decide) rfl ?_
            refine en_segs [(185, .iload 5, [])] (by decide +kernel) (y := (187, [some (.ref a0), some (.int x1), some (.int x2), some (.int x3), some (.int x4), some (.int x5), some (.int x6)], [.int x5, .ref (aP d 12 25 a0), .int x4, .ref a0], h)) rfl ?_
            obtain ⟨v38, hv38, hF⟩ := ob_some hF
            refine en_iald (by decide +kernel : u_at kl_280 187 = some (.iaload, [])) hW ha0 rfl (by decide) hv38 ?_
            refine en_segs [(188, .iload 6, []), (190, .aload_n 0, [])] (by decide +kernel) (y := (191, [some (.ref a0), some (.int x1), some (.int x2), some (.int x3), some (.int x4), some (.int x5), some (.int x6)], [.ref a0, .int x6, .int v38, .int x4, .ref a0], h)) rfl ?_
            refine en_get (by decide +kernel : u_at kl_280 191 = some (.getfield 67, [12, 32])) hW ha0 (by decide) rfl ?_
            refine en_segs [(194, .iload 5, [])] (by decide +kernel) (y := (196, [some (.ref a0), some (.int x1), some (.int x2), some (.int x3), some (.int x4), some (.int x5), some (.int x6)], [.int x5, .ref (aP d 12 32 a0), .int x6, .int v38, .int x4, .ref a0], h)) rfl ?_
            obtain ⟨v39, hv39, hF⟩ := ob_some hF
            refine en_iald (by decide +kernel : u_at kl_280 196 = some (.iaload, [])) hW ha0 rfl (by decide) hv39 ?_
            refine en_segs [(197, .isub, []), (198, .imul, []), (199, .iadd, [])] (by decide +kernel) (y := (200, [some (.ref a0), some (.int x1), some (.int x2), some (.int x3), some (.int x4), some (.int x5), some (.int x6)], [.int (x4 + (v38 * (x6 - v39))), .ref a0], h)) rfl ?_
            obtain ⟨r40, hr40, hF⟩ := ob_some hF
            refine en_vv (r := []) (by decide +kernel : u_at kl_280 200 = some (.invokevirtual 499, [279, 1, 12])) hW ha0 rfl rfl (Nat.le_of_ble_eq_true rfl) (e_279 (D := D) (by omega) hW ha0 hr40) (fun h hW => ?_)
            have hW : HW (mkw c0 c1 c2 c3 c4 c5 c6 c7 c8 c9 c10 c11 r40 c13) d h := hW
            obtain rfl := Option.some.inj hF
            exact j33 _ hW
  · intro x1 x2 x3 x4 x5 e1 e2 e3 e4 h hW QQ hQ
    subst e1 e2 e3 e4
    refine en_segs [(209, .aload_n 0, [])] (by decide +kernel) (y := (210, [some (.ref a0), some (.int x1), some (.int x2), some (.int x3), some (.int x4), some (.int x5), none], [.ref a0], h)) rfl ?_
    refine en_get (by decide +kernel : u_at kl_280 210 = some (.getfield 45, [12, 24])) hW ha0 (by decide) rfl ?_
    refine en_segs [(213, .iload 5, []), (215, .aload_n 0, [])] (by decide +kernel) (y := (216, [some (.ref a0), some (.int x1), some (.int x2), some (.int x3), some (.int x4), some (.int x5), none], [.ref a0, .int x5, .ref (aP d 12 24 a0)], h)) rfl ?_
    refine en_get (by decide +kernel : u_at kl_280 216 = some (.getfield 67, [12, 32])) hW ha0 (by decide) rfl ?_
    refine en_segs [(219, .iload 5, [])] (by decide +kernel) (y := (221, [some (.ref a0), some (.int x1), some (.int x2), some (.int x3), some (.int x4), some (.int x5), none], [.int x5, .ref (aP d 12 32 a0), .int x5, .ref (aP d 12 24 a0)], h)) rfl ?_
    obtain ⟨v41, hv41, hF⟩ := ob_some hF
    refine en_iald (by decide +kernel : u_at kl_280 221 = some (.iaload, [])) hW ha0 rfl (by decide) hv41 ?_
    obtain ⟨c12_42, hc12_42, hF⟩ := ob_some hF
    refine en_iast (by decide +kernel : u_at kl_280 222 = some (.iastore, [])) hW ha0 rfl (by decide) hc12_42 (fun h hW => ?_)
    have hW : HW (mkw c0 c1 c2 c3 c4 c5 c6 c7 c8 c9 c10 c11 c12_42 c13) d h := hW
    refine en_segs [(223, .iinc 5 1, []), (226, .goto (-120), [106])] (by decide +kernel) (y := (106, [some (.ref a0), some (.int x1), some (.int x2), some (.int x3), some (.int x4), some (.int (x5 + 1)), none], [], h)) rfl ?_
    exact (ih _ _ _ _ _ _ hF).2.2.1 _ _ _ _ _ rfl rfl rfl rfl  _ hW _ hQ
  · intro x1 x2 e1 e2 e3 e4 h hW QQ hQ
    subst e1 e2 e3 e4
    refine en_segs [(235, .aload_n 0, [])] (by decide +kernel) (y := (236, [some (.ref a0), some (.int x1), some (.int x2), none, none, none, none], [.ref a0], h)) rfl ?_
    refine en_get (by decide +kernel : u_at kl_280 236 = some (.getfield 45, [12, 24])) hW ha0 (by decide) rfl ?_
    refine en_segs [(239, .iload_n 2, []), (240, .aload_n 0, [])] (by decide +kernel) (y := (241, [some (.ref a0), some (.int x1), some (.int x2), none, none, none, none], [.ref a0, .int x2, .ref (aP d 12 24 a0)], h)) rfl ?_
    refine en_get (by decide +kernel : u_at kl_280 241 = some (.getfield 67, [12, 32])) hW ha0 (by decide) rfl ?_
    refine en_segs [(244, .iload_n 2, [])] (by decide +kernel) (y := (245, [some (.ref a0), some (.int x1), some (.int x2), none, none, none, none], [.int x2, .ref (aP d 12 32 a0), .int x2, .ref (aP d 12 24 a0)], h)) rfl ?_
    obtain ⟨v21, hv21, hF⟩ := ob_some hF
    refine en_iald (by decide +kernel : u_at kl_280 245 = some (.iaload, [])) hW ha0 rfl (by decide) hv21 ?_
    obtain ⟨c12_22, hc12_22, hF⟩ := ob_some hF
    refine en_iast (by decide +kernel : u_at kl_280 246 = some (.iastore, [])) hW ha0 rfl (by decide) hc12_22 (fun h hW => ?_)
    have hW : HW (mkw c0 c1 c2 c3 c4 c5 c6 c7 c8 c9 c10 c11 c12_22 c13) d h := hW
    refine en_segs [(247, .iinc 2 1, []), (250, .goto (-238), [12])] (by decide +kernel) (y := (12, [some (.ref a0), some (.int x1), some (.int (x2 + 1)), none, none, none, none], [], h)) rfl ?_
    exact (ih _ _ _ _ _ _ hF).1 _ _ rfl rfl rfl rfl  _ hW _ hQ
def F_280 (c12 : Cl) (a0 : Nat) (p1 : Int32) : Option Cl :=
  F_275 c12 a0 p1 >>= fun r1 =>
  some (sI r1 39 a0 0) >>= fun c12_2 =>
  G_280 a0 0 [p1, 0] [] [] c12_2
set_option maxRecDepth 100000 in
set_option maxHeartbeats 4000000 in
/-- HeadCountsModel.gathersLeads -/
theorem e_280 {D : Nat} {c0 c1 c2 c3 c4 c5 c6 c7 c8 c9 c10 c11 c12 c13 : Cl} {d : Ad} {h : UH} {a0 : Nat} {p1 : Int32} {r : Cl} (hD : 5 ≤ D) (hW : HW (mkw c0 c1 c2 c3 c4 c5 c6 c7 c8 c9 c10 c11 c12 c13) d h) (ha0 : aK d a0 = (0, 12, 0)) (hF : F_280 c12 a0 p1 = some r) : ∃ q, EX D 280 [.ref a0, .int p1] h q ∧ q.1 = none ∧ HW (mkw c0 c1 c2 c3 c4 c5 c6 c7 c8 c9 c10 c11 r c13) d q.2 := by
  obtain ⟨D, rfl⟩ : ∃ E, D = E + 1 := ⟨D - 1, by omega⟩
  unfold F_280 at hF
  refine ex_in (kl := kl_280) (nL := 7) rfl (by decide +kernel) (Nat.le_of_ble_eq_true rfl) ?_
  obtain ⟨QQ, hQQ⟩ : ∃ QQ : UR → Prop, QQ = (fun q : UR => q.1 = none ∧ HW (mkw c0 c1 c2 c3 c4 c5 c6 c7 c8 c9 c10 c11 r c13) d q.2) := ⟨_, rfl⟩
  rw [← hQQ]
  have hQ : ∀ h' : UH, HW (mkw c0 c1 c2 c3 c4 c5 c6 c7 c8 c9 c10 c11 r c13) d h' → QQ (none, h') := fun h' p => by rw [hQQ]; exact ⟨rfl, p⟩
  clear hQQ
  show Ends (EX D) (u_at kl_280) (0, [some (.ref a0), some (.int p1), none, none, none, none, none], [], h) QQ
  refine en_segs [(0, .aload_n 0, []), (1, .iload_n 1, [])] (by decide +kernel) (y := (2, [some (.ref a0), some (.int p1), none, none, none, none, none], [.int p1, .ref a0], h)) rfl ?_
  obtain ⟨r1, hr1, hF⟩ := ob_some hF
  refine en_vv (r := []) (by decide +kernel : u_at kl_280 2 = some (.invokevirtual 484, [275, 1, 12])) hW ha0 rfl rfl (Nat.le_of_ble_eq_true rfl) (e_275 (D := D) (by omega) hW ha0 hr1) (fun h hW => ?_)
  have hW : HW (mkw c0 c1 c2 c3 c4 c5 c6 c7 c8 c9 c10 c11 r1 c13) d h := hW
  refine en_segs [(5, .aload_n 0, []), (6, .iconst 0, [])] (by decide +kernel) (y := (7, [some (.ref a0), some (.int p1), none, none, none, none, none], [.int 0, .ref a0], h)) rfl ?_
  obtain ⟨c12_2, hc12_2, hF⟩ := ob_some hF
  refine en_putI (by decide +kernel : u_at kl_280 7 = some (.putfield 496, [12, 39, 0])) hW ha0 rfl (by decide) rfl (fun h hW => ?_)
  have hW : HW (mkw c0 c1 c2 c3 c4 c5 c6 c7 c8 c9 c10 c11 c12_2 c13) d h := by rw [← Option.some.inj hc12_2]; exact hW
  refine en_segs [(10, .iconst 0, []), (11, .istore_n 2, [])] (by decide +kernel) (y := (12, [some (.ref a0), some (.int p1), some (.int 0), none, none, none, none], [], h)) rfl ?_
  exact (g_280 (D := D) hD ha0 _ _ _ _ _ _ hF).1 _ _ rfl rfl rfl rfl  _ hW _ hQ
def G_281 (c12 : Cl) (a0 : Nat) (lab : Nat) (xs : List Int32) (ys : List Int64) (zs : List Nat) : Option Int32 := match lab, xs, ys, zs with
  | 0, [x1, x2, x3, x4], [], [] =>
    if 6 ≤ x4 then
    some x3
    else
    ald (cA c12 25 a0) 6 x4 >>= fun v2 =>
    idv x1 v2 >>= fun v3 =>
    irm v3 6 >>= fun v4 =>
    ald (cA c12 25 a0) 6 x4 >>= fun v5 =>
    idv x2 v5 >>= fun v6 =>
    irm v6 6 >>= fun v7 =>
    ((if v4 = v7 then
    some 0
    else
    some 1) : Option (Int32)) >>= fun (t8 : Int32) =>
    G_281 c12 a0 0 [x1, x2, x3 + t8, x4 + 1] [] []
  | _, _, _, _ => none
partial_fixpoint
set_option maxRecDepth 100000 in
set_option maxHeartbeats 4000000 in
theorem g_281 {D : Nat} (hD : 1 ≤ D + 1) {c0 c1 c2 c3 c4 c5 c6 c7 c8 c9 c10 c11 c12 c13 : Cl} {d : Ad} {a0 : Nat} (ha0 : aK d a0 = (0, 12, 0)) : ∀ (lab : Nat) (xs : List Int32) (ys : List Int64) (zs : List Nat) (r : Int32), G_281 c12 a0 lab xs ys zs = some r →
    (∀ (x1 : Int32) (x2 : Int32) (x3 : Int32) (x4 : Int32), lab = 0 → xs = [x1, x2, x3, x4] → ys = [] → zs = [] → ∀ h : UH, HW (mkw c0 c1 c2 c3 c4 c5 c6 c7 c8 c9 c10 c11 c12 c13) d h → ∀ QQ : UR → Prop, QQ (some (.int r), h) → Ends (EX D) (u_at kl_281) (5, [some (.ref a0), some (.int x1), some (.int x2), some (.int x3), some (.int x4)], [], h) QQ) := by
  refine G_281.partial_correctness _ _ (motive := fun lab xs ys zs r =>
    (∀ (x1 : Int32) (x2 : Int32) (x3 : Int32) (x4 : Int32), lab = 0 → xs = [x1, x2, x3, x4] → ys = [] → zs = [] → ∀ h : UH, HW (mkw c0 c1 c2 c3 c4 c5 c6 c7 c8 c9 c10 c11 c12 c13) d h → ∀ QQ : UR → Prop, QQ (some (.int r), h) → Ends (EX D) (u_at kl_281) (5, [some (.ref a0), some (.int x1), some (.int x2), some (.int x3), some (.int x4)], [], h) QQ)) ?_
  intro G ih lab xs ys zs r hF
  · intro x1 x2 x3 x4 e1 e2 e3 e4 h hW QQ hQ
    subst e1 e2 e3 e4
    refine en_segs [(5, .iload 4, []), (7, .bipush 6, [])] (by decide +kernel) (y := (9, [some (.ref a0), some (.int x1), some (.int x2), some (.int x3), some (.int x4)], [.int 6, .int x4], h)) rfl ?_
    refine en_ic_ge (by decide +kernel : u_at kl_281 9 = some (.if_icmp .ge 44, [53])) (fun b1 => ?_) (fun b1 => ?_)
    · replace hF := i_pos b1 hF
      refine en_segs [(53, .iload_n 3, [])] (by decide +kernel) (y := (54, [some (.ref a0), some (.int x1), some (.int x2), some (.int x3), some (.int x4)], [.int x3], h)) rfl ?_
      obtain rfl := Option.some.inj hF
      exact en_ret (by decide +kernel : u_at kl_281 54 = some (.ireturn, [0])) rfl (hQ)
    · replace hF := i_neg b1 hF
      refine en_segs [(12, .iload_n 3, []), (13, .iload_n 1, []), (14, .aload_n 0, [])] (by decide +kernel) (y := (15, [some (.ref a0), some (.int x1), some (.int x2), some (.int x3), some (.int x4)], [.ref a0, .int x1, .int x3], h)) rfl ?_
      refine en_get (by decide +kernel : u_at kl_281 15 = some (.getfield 48, [12, 25])) hW ha0 (by decide) rfl ?_
      refine en_segs [(18, .iload 4, [])] (by decide +kernel) (y := (20, [some (.ref a0), some (.int x1), some (.int x2), some (.int x3), some (.int x4)], [.int x4, .ref (aP d 12 25 a0), .int x1, .int x3], h)) rfl ?_
      obtain ⟨v2, hv2, hF⟩ := ob_some hF
      refine en_iald (by decide +kernel : u_at kl_281 20 = some (.iaload, [])) hW ha0 rfl (by decide) hv2 ?_
      obtain ⟨v3, hv3, hF⟩ := ob_some hF
      refine en_idiv (by decide +kernel : u_at kl_281 21 = some (.idiv, [])) hv3 ?_
      refine en_segs [(22, .bipush 6, [])] (by decide +kernel) (y := (24, [some (.ref a0), some (.int x1), some (.int x2), some (.int x3), some (.int x4)], [.int 6, .int v3, .int x3], h)) rfl ?_
      obtain ⟨v4, hv4, hF⟩ := ob_some hF
      refine en_irem (by decide +kernel : u_at kl_281 24 = some (.irem, [])) hv4 ?_
      refine en_segs [(25, .iload_n 2, []), (26, .aload_n 0, [])] (by decide +kernel) (y := (27, [some (.ref a0), some (.int x1), some (.int x2), some (.int x3), some (.int x4)], [.ref a0, .int x2, .int v4, .int x3], h)) rfl ?_
      refine en_get (by decide +kernel : u_at kl_281 27 = some (.getfield 48, [12, 25])) hW ha0 (by decide) rfl ?_
      refine en_segs [(30, .iload 4, [])] (by decide +kernel) (y := (32, [some (.ref a0), some (.int x1), some (.int x2), some (.int x3), some (.int x4)], [.int x4, .ref (aP d 12 25 a0), .int x2, .int v4, .int x3], h)) rfl ?_
      obtain ⟨v5, hv5, hF⟩ := ob_some hF
      refine en_iald (by decide +kernel : u_at kl_281 32 = some (.iaload, [])) hW ha0 rfl (by decide) hv5 ?_
      obtain ⟨v6, hv6, hF⟩ := ob_some hF
      refine en_idiv (by decide +kernel : u_at kl_281 33 = some (.idiv, [])) hv6 ?_
      refine en_segs [(34, .bipush 6, [])] (by decide +kernel) (y := (36, [some (.ref a0), some (.int x1), some (.int x2), some (.int x3), some (.int x4)], [.int 6, .int v6, .int v4, .int x3], h)) rfl ?_
      obtain ⟨v7, hv7, hF⟩ := ob_some hF
      refine en_irem (by decide +kernel : u_at kl_281 36 = some (.irem, [])) hv7 ?_
      obtain ⟨t8, hX, hK⟩ := ob_some hF
      have j9 : Ends (EX D) (u_at kl_281) (45, [some (.ref a0), some (.int x1), some (.int x2), some (.int x3), some (.int x4)], [.int t8, .int x3], h) QQ := by
        have hF := hK
        refine en_segs [(45, .iadd, []), (46, .istore_n 3, []), (47, .iinc 4 1, []), (50, .goto (-45), [5])] (by decide +kernel) (y := (5, [some (.ref a0), some (.int x1), some (.int x2), some (.int (x3 + t8)), some (.int (x4 + 1))], [], h)) rfl ?_
        exact (ih _ _ _ _ _ hF) _ _ _ _ rfl rfl rfl rfl  _ hW _ hQ
      have hF := hX
      refine en_ic_ne (by decide +kernel : u_at kl_281 37 = some (.if_icmp .ne 7, [44])) (fun b10 => ?_) (fun b10 => ?_)
      · replace hF := i_pos b10 hF
        refine en_segs [(40, .iconst 0, []), (41, .goto 4, [45])] (by decide +kernel) (y := (45, [some (.ref a0), some (.int x1), some (.int x2), some (.int x3), some (.int x4)], [.int 0, .int x3], h)) rfl ?_
        obtain rfl := Option.some.inj hF
        exact j9
      · replace hF := i_neg b10 hF
        refine en_segs [(44, .iconst 1, [])] (by decide +kernel) (y := (45, [some (.ref a0), some (.int x1), some (.int x2), some (.int x3), some (.int x4)], [.int 1, .int x3], h)) rfl ?_
        obtain rfl := Option.some.inj hF
        exact j9
def F_281 (c12 : Cl) (a0 : Nat) (p1 : Int32) (p2 : Int32) : Option Int32 :=
  G_281 c12 a0 0 [p1, p2, 0, 0] [] []
set_option maxRecDepth 100000 in
set_option maxHeartbeats 4000000 in
/-- HeadCountsModel.manyGo -/
theorem e_281 {D : Nat} {c0 c1 c2 c3 c4 c5 c6 c7 c8 c9 c10 c11 c12 c13 : Cl} {d : Ad} {h : UH} {a0 : Nat} {p1 : Int32} {p2 : Int32} {r : Int32} (hD : 1 ≤ D) (hW : HW (mkw c0 c1 c2 c3 c4 c5 c6 c7 c8 c9 c10 c11 c12 c13) d h) (ha0 : aK d a0 = (0, 12, 0)) (hF : F_281 c12 a0 p1 p2 = some r) : ∃ q, EX D 281 [.ref a0, .int p1, .int p2] h q ∧ q.1 = some (.int r) ∧ h = q.2 := by
  obtain ⟨D, rfl⟩ : ∃ E, D = E + 1 := ⟨D - 1, by omega⟩
  unfold F_281 at hF
  refine ex_in (kl := kl_281) (nL := 5) rfl (by decide +kernel) (Nat.le_of_ble_eq_true rfl) ?_
  obtain ⟨QQ, hQQ⟩ : ∃ QQ : UR → Prop, QQ = (fun q : UR => q.1 = some (.int r) ∧ h = q.2) := ⟨_, rfl⟩
  rw [← hQQ]
  have hQ : QQ (some (.int r), h) := by rw [hQQ]; exact ⟨rfl, rfl⟩
  clear hQQ
  show Ends (EX D) (u_at kl_281) (0, [some (.ref a0), some (.int p1), some (.int p2), none, none], [], h) QQ
  refine en_segs [(0, .iconst 0, []), (1, .istore_n 3, []), (2, .iconst 0, []), (3, .istore 4, [])] (by decide +kernel) (y := (5, [some (.ref a0), some (.int p1), some (.int p2), some (.int 0), some (.int 0)], [], h)) rfl ?_
  exact (g_281 (D := D) hD ha0 _ _ _ _ _ hF) _ _ _ _ rfl rfl rfl rfl  _ hW _ hQ
def G_282 (a0 : Nat) (lab : Nat) (xs : List Int32) (ys : List Int64) (zs : List Nat) (c12 : Cl) : Option (Int32 × Cl) := match lab, xs, ys, zs with
  | 0, [x1, x2, x3], [], [] =>
    if 46656 ≤ x3 then
    F_256 c12 a0 >>= fun r2 =>
    ast c12 34 a0 1001 0 r2 >>= fun c12_3 =>
    ast c12_3 35 a0 1001 0 0 >>= fun c12_4 =>
    ast c12_4 36 a0 1001 0 0 >>= fun c12_5 =>
    ald (cA c12_5 34 a0) 1001 0 >>= fun v6 =>
    ast c12_5 37 a0 46656 v6 (vp_nar .boolean 1) >>= fun c12_7 =>
    F_223 c12_7 a0 x1 0 >>= fun r8 =>
    if r8 = x2 then
    some (0, c12_7)
    else
    G_282 a0 1 [x1, x2, 1, 0] [] [] c12_7
    else
    ast c12 37 a0 46656 x3 (vp_nar .boolean 0) >>= fun c12_10 =>
    G_282 a0 0 [x1, x2, x3 + 1] [] [] c12_10
  | 1, [x1, x2, x3, x4], [], [] =>
    if x3 ≤ x4 then
    some ((-2), c12)
    else
    ald (cA c12 34 a0) 1001 x4 >>= fun v12 =>
    F_280 c12 a0 v12 >>= fun r13 =>
    G_282 a0 2 [x1, x2, x3, x4, 0] [] [] r13
  | 2, [x1, x2, x3, x4, x5], [], [] =>
    if (cI c12 39 a0) ≤ x5 then
    G_282 a0 1 [x1, x2, x3, x4 + 1] [] [] c12
    else
    ald (cA c12 38 a0) 420 x5 >>= fun v15 =>
    ald (cA c12 37 a0) 46656 v15 >>= fun v16 =>
    if v16 = 0 then
    ald (cA c12 25 a0) 6 x1 >>= fun v18 =>
    idv v15 v18 >>= fun v19 =>
    irm v19 6 >>= fun v20 =>
    ((if v20 = x2 then
    some 1
    else
    some 0) : Option (Int32)) >>= fun (t21 : Int32) =>
    if x3 < 1000 then
    G_282 a0 3 [x1, x2, x3, x4, x5, v15, t21] [] [] c12
    else
    if t21 = 0 then
    some ((-3), c12)
    else
    G_282 a0 3 [x1, x2, x3, x4, x5, v15, t21] [] [] c12
    else
    G_282 a0 2 [x1, x2, x3, x4, x5 + 1] [] [] c12
  | 3, [x1, x2, x3, x4, x5, x6, x7], [], [] =>
    ast c12 37 a0 46656 x6 (vp_nar .boolean 1) >>= fun c12_26 =>
    ast c12_26 34 a0 1001 x3 x6 >>= fun c12_27 =>
    ald (cA c12_27 35 a0) 1001 x4 >>= fun v28 =>
    ast c12_27 35 a0 1001 x3 (v28 + 1) >>= fun c12_29 =>
    ald (cA c12_29 36 a0) 1001 x4 >>= fun v30 =>
    ald (cA c12_29 34 a0) 1001 x4 >>= fun v31 =>
    F_281 c12_29 a0 v31 x6 >>= fun r32 =>
    ast c12_29 36 a0 1001 x3 (v30 + r32) >>= fun c12_33 =>
    if x7 = 0 then
    G_282 a0 2 [x1, x2, x3 + 1, x4, x5 + 1] [] [] c12_33
    else
    some ((x3 + 1) - 1, c12_33)
  | _, _, _, _ => none
partial_fixpoint
set_option maxRecDepth 100000 in
set_option maxHeartbeats 4000000 in
theorem g_282 {D : Nat} (hD : 6 ≤ D + 1) {c0 c1 c2 c3 c4 c5 c6 c7 c8 c9 c10 c11 c13 : Cl} {d : Ad} {a0 : Nat} (ha0 : aK d a0 = (0, 12, 0)) : ∀ (lab : Nat) (xs : List Int32) (ys : List Int64) (zs : List Nat) (c12 : Cl) (r : (Int32 × Cl)), G_282 a0 lab xs ys zs c12 = some r →
    (∀ (x1 : Int32) (x2 : Int32) (x3 : Int32), lab = 0 → xs = [x1, x2, x3] → ys = [] → zs = [] → ∀ h : UH, HW (mkw c0 c1 c2 c3 c4 c5 c6 c7 c8 c9 c10 c11 c12 c13) d h → ∀ QQ : UR → Prop, (∀ h' : UH, HW (mkw c0 c1 c2 c3 c4 c5 c6 c7 c8 c9 c10 c11 r.2 c13) d h' → QQ (some (.int r.1), h')) → Ends (EX D) (u_at kl_282) (2, [some (.ref a0), some (.int x1), some (.int x2), some (.int x3), none, none, none, none], [], h) QQ) ∧
    (∀ (x1 : Int32) (x2 : Int32) (x3 : Int32) (x4 : Int32), lab = 1 → xs = [x1, x2, x3, x4] → ys = [] → zs = [] → ∀ h : UH, HW (mkw c0 c1 c2 c3 c4 c5 c6 c7 c8 c9 c10 c11 c12 c13) d h → ∀ QQ : UR → Prop, (∀ h' : UH, HW (mkw c0 c1 c2 c3 c4 c5 c6 c7 c8 c9 c10 c11 r.2 c13) d h' → QQ (some (.int r.1), h')) → Ends (EX D) (u_at kl_282) (74, [some (.ref a0), some (.int x1), some (.int x2), some (.int x3), some (.int x4), none, none, none], [], h) QQ) ∧
    (∀ (x1 : Int32) (x2 : Int32) (x3 : Int32) (x4 : Int32) (x5 : Int32), lab = 2 → xs = [x1, x2, x3, x4, x5] → ys = [] → zs = [] → ∀ h : UH, HW (mkw c0 c1 c2 c3 c4 c5 c6 c7 c8 c9 c10 c11 c12 c13) d h → ∀ QQ : UR → Prop, (∀ h' : UH, HW (mkw c0 c1 c2 c3 c4 c5 c6 c7 c8 c9 c10 c11 r.2 c13) d h' → QQ (some (.int r.1), h')) → Ends (EX D) (u_at kl_282) (94, [some (.ref a0), some (.int x1), some (.int x2), some (.int x3), some (.int x4), some (.int x5), none, none], [], h) QQ) ∧
    (∀ (x1 : Int32) (x2 : Int32) (x3 : Int32) (x4 : Int32) (x5 : Int32) (x6 : Int32) (x7 : Int32), lab = 3 → xs = [x1, x2, x3, x4, x5, x6, x7] → ys = [] → zs = [] → ∀ h : UH, HW (mkw c0 c1 c2 c3 c4 c5 c6 c7 c8 c9 c10 c11 c12 c13) d h → ∀ QQ : UR → Prop, (∀ h' : UH, HW (mkw c0 c1 c2 c3 c4 c5 c6 c7 c8 c9 c10 c11 r.2 c13) d h' → QQ (some (.int r.1), h')) → Ends (EX D) (u_at kl_282) (163, [some (.ref a0), some (.int x1), some (.int x2), some (.int x3), some (.int x4), some (.int x5), some (.int x6), some (.int x7)], [], h) QQ) := by
  refine G_282.partial_correctness _ (motive := fun lab xs ys zs c12 r =>
    (∀ (x1 : Int32) (x2 : Int32) (x3 : Int32), lab = 0 → xs = [x1, x2, x3] → ys = [] → zs = [] → ∀ h : UH, HW (mkw c0 c1 c2 c3 c4 c5 c6 c7 c8 c9 c10 c11 c12 c13) d h → ∀ QQ : UR → Prop, (∀ h' : UH, HW (mkw c0 c1 c2 c3 c4 c5 c6 c7 c8 c9 c10 c11 r.2 c13) d h' → QQ (some (.int r.1), h')) → Ends (EX D) (u_at kl_282) (2, [some (.ref a0), some (.int x1), some (.int x2), some (.int x3), none, none, none, none], [], h) QQ) ∧
    (∀ (x1 : Int32) (x2 : Int32) (x3 : Int32) (x4 : Int32), lab = 1 → xs = [x1, x2, x3, x4] → ys = [] → zs = [] → ∀ h : UH, HW (mkw c0 c1 c2 c3 c4 c5 c6 c7 c8 c9 c10 c11 c12 c13) d h → ∀ QQ : UR → Prop, (∀ h' : UH, HW (mkw c0 c1 c2 c3 c4 c5 c6 c7 c8 c9 c10 c11 r.2 c13) d h' → QQ (some (.int r.1), h')) → Ends (EX D) (u_at kl_282) (74, [some (.ref a0), some (.int x1), some (.int x2), some (.int x3), some (.int x4), none, none, none], [], h) QQ) ∧
    (∀ (x1 : Int32) (x2 : Int32) (x3 : Int32) (x4 : Int32) (x5 : Int32), lab = 2 → xs = [x1, x2, x3, x4, x5] → ys = [] → zs = [] → ∀ h : UH, HW (mkw c0 c1 c2 c3 c4 c5 c6 c7 c8 c9 c10 c11 c12 c13) d h → ∀ QQ : UR → Prop, (∀ h' : UH, HW (mkw c0 c1 c2 c3 c4 c5 c6 c7 c8 c9 c10 c11 r.2 c13) d h' → QQ (some (.int r.1), h')) → Ends (EX D) (u_at kl_282) (94, [some (.ref a0), some (.int x1), some (.int x2), some (.int x3), some (.int x4), some (.int x5), none, none], [], h) QQ) ∧
    (∀ (x1 : Int32) (x2 : Int32) (x3 : Int32) (x4 : Int32) (x5 : Int32) (x6 : Int32) (x7 : Int32), lab = 3 → xs = [x1, x2, x3, x4, x5, x6, x7] → ys = [] → zs = [] → ∀ h : UH, HW (mkw c0 c1 c2 c3 c4 c5 c6 c7 c8 c9 c10 c11 c12 c13) d h → ∀ QQ : UR → Prop, (∀ h' : UH, HW (mkw c0 c1 c2 c3 c4 c5 c6 c7 c8 c9 c10 c11 r.2 c13) d h' → QQ (some (.int r.1), h')) → Ends (EX D) (u_at kl_282) (163, [some (.ref a0), some (.int x1), some (.int x2), some (.int x3), some (.int x4), some (.int x5), some (.int x6), some (.int x7)], [], h) QQ)) ?_
  intro G ih lab xs ys zs c12 r hF
  refine ⟨?_, ?_, ?_, ?_⟩
  · intro x1 x2 x3 e1 e2 e3 e4 h hW QQ hQ
    subst e1 e2 e3 e4
    refine en_segs [(2, .iload_n 3, []), (3, .ldc 51, [46656])] (by decide +kernel) (y := (5, [some (.ref a0), some (.int x1), some (.int x2), some (.int x3), none, none, none, none], [.int 46656, .int x3], h)) rfl ?_
    refine en_ic_ge (by decide +kernel : u_at kl_282 5 = some (.if_icmp .ge 16, [21])) (fun b1 => ?_) (fun b1 => ?_)
    · replace hF := i_pos b1 hF
      refine en_segs [(21, .aload_n 0, [])] (by decide +kernel) (y := (22, [some (.ref a0), some (.int x1), some (.int x2), some (.int x3), none, none, none, none], [.ref a0], h)) rfl ?_
      refine en_get (by decide +kernel : u_at kl_282 22 = some (.getfield 73, [12, 34])) hW ha0 (by decide) rfl ?_
      refine en_segs [(25, .iconst 0, []), (26, .aload_n 0, [])] (by decide +kernel) (y := (27, [some (.ref a0), some (.int x1), some (.int x2), some (.int x3), none, none, none, none], [.ref a0, .int 0, .ref (aP d 12 34 a0)], h)) rfl ?_
      obtain ⟨r2, hr2, hF⟩ := ob_some hF
      refine en_vi (r := [.int 0, .ref (aP d 12 34 a0)]) (by decide +kernel : u_at kl_282 27 = some (.invokevirtual 446, [256, 0, 12])) hW ha0 rfl rfl (Nat.le_of_ble_eq_true rfl) (e_256 (D := D) (by omega) hW ha0 hr2) (fun h' q => ?_)
      subst q
      obtain ⟨c12_3, hc12_3, hF⟩ := ob_some hF
      refine en_iast (by decide +kernel : u_at kl_282 30 = some (.iastore, [])) hW ha0 rfl (by decide) hc12_3 (fun h hW => ?_)
      have hW : HW (mkw c0 c1 c2 c3 c4 c5 c6 c7 c8 c9 c10 c11 c12_3 c13) d h := hW
      refine en_segs [(31, .aload_n 0, [])] (by decide +kernel) (y := (32, [some (.ref a0), some (.int x1), some (.int x2), some (.int x3), none, none, none, none], [.ref a0], h)) rfl ?_
      refine en_get (by decide +kernel : u_at kl_282 32 = some (.getfield 76, [12, 35])) hW ha0 (by decide) rfl ?_
      refine en_segs [(35, .iconst 0, []), (36, .iconst 0, [])] (by decide +kernel) (y := (37, [some (.ref a0), some (.int x1), some (.int x2), some (.int x3), none, none, none, none], [.int 0, .int 0, .ref (aP d 12 35 a0)], h)) rfl ?_
      obtain ⟨c12_4, hc12_4, hF⟩ := ob_some hF
      refine en_iast (by decide +kernel : u_at kl_282 37 = some (.iastore, [])) hW ha0 rfl (by decide) hc12_4 (fun h hW => ?_)
      have hW : HW (mkw c0 c1 c2 c3 c4 c5 c6 c7 c8 c9 c10 c11 c12_4 c13) d h := hW
      refine en_segs [(38, .aload_n 0, [])] (by decide +kernel) (y := (39, [some (.ref a0), some (.int x1), some (.int x2), some (.int x3), none, none, none, none], [.ref a0], h)) rfl ?_
      refine en_get (by decide +kernel : u_at kl_282 39 = some (.getfield 79, [12, 36])) hW ha0 (by decide) rfl ?_
      refine en_segs [(42, .iconst 0, []), (43, .iconst 0, [])] (by decide +kernel) (y := (44, [some (.ref a0), some (.int x1), some (.int x2), some (.int x3), none, none, none, none], [.int 0, .int 0, .ref (aP d 12 36 a0)], h)) rfl ?_
      obtain ⟨c12_5, hc12_5, hF⟩ := ob_some hF
      refine en_iast (by decide +kernel : u_at kl_282 44 = some (.iastore, [])) hW ha0 rfl (by decide) hc12_5 (fun h hW => ?_)
      have hW : HW (mkw c0 c1 c2 c3 c4 c5 c6 c7 c8 c9 c10 c11 c12_5 c13) d h := hW
      refine en_segs [(45, .aload_n 0, [])] (by decide +kernel) (y := (46, [some (.ref a0), some (.int x1), some (.int x2), some (.int x3), none, none, none, none], [.ref a0], h)) rfl ?_
      refine en_get (by decide +kernel : u_at kl_282 46 = some (.getfield 82, [12, 37])) hW ha0 (by decide) rfl ?_
      refine en_segs [(49, .aload_n 0, [])] (by decide +kernel) (y := (50, [some (.ref a0), some (.int x1), some (.int x2), some (.int x3), none, none, none, none], [.ref a0, .ref (aP d 12 37 a0)], h)) rfl ?_
      refine en_get (by decide +kernel : u_at kl_282 50 = some (.getfield 73, [12, 34])) hW ha0 (by decide) rfl ?_
      refine en_segs [(53, .iconst 0, [])] (by decide +kernel) (y := (54, [some (.ref a0), some (.int x1), some (.int x2), some (.int x3), none, none, none, none], [.int 0, .ref (aP d 12 34 a0), .ref (aP d 12 37 a0)], h)) rfl ?_
      obtain ⟨v6, hv6, hF⟩ := ob_some hF
      refine en_iald (by decide +kernel : u_at kl_282 54 = some (.iaload, [])) hW ha0 rfl (by decide) hv6 ?_
      refine en_segs [(55, .iconst 1, [])] (by decide +kernel) (y := (56, [some (.ref a0), some (.int x1), some (.int x2), some (.int x3), none, none, none, none], [.int 1, .int v6, .ref (aP d 12 37 a0)], h)) rfl ?_
      obtain ⟨c12_7, hc12_7, hF⟩ := ob_some hF
      refine en_zast (by decide +kernel : u_at kl_282 56 = some (.bastore, [])) hW ha0 rfl (by decide) hc12_7 (fun h hW => ?_)
      have hW : HW (mkw c0 c1 c2 c3 c4 c5 c6 c7 c8 c9 c10 c11 c12_7 c13) d h := hW
      refine en_segs [(57, .aload_n 0, []), (58, .iload_n 1, []), (59, .iconst 0, [])] (by decide +kernel) (y := (60, [some (.ref a0), some (.int x1), some (.int x2), some (.int x3), none, none, none, none], [.int 0, .int x1, .ref a0], h)) rfl ?_
      obtain ⟨r8, hr8, hF⟩ := ob_some hF
      refine en_vi (r := []) (by decide +kernel : u_at kl_282 60 = some (.invokevirtual 343, [223, 2, 12])) hW ha0 rfl rfl (Nat.le_of_ble_eq_true rfl) (e_223 (D := D) (by omega) hW ha0 hr8) (fun h' q => ?_)
      subst q
      refine en_segs [(63, .iload_n 2, [])] (by decide +kernel) (y := (64, [some (.ref a0), some (.int x1), some (.int x2), some (.int x3), none, none, none, none], [.int x2, .int r8], h)) rfl ?_
      refine en_ic_ne (by decide +kernel : u_at kl_282 64 = some (.if_icmp .ne 5, [69])) (fun b9 => ?_) (fun b9 => ?_)
      · replace hF := i_pos b9 hF
        refine en_segs [(67, .iconst 0, [])] (by decide +kernel) (y := (68, [some (.ref a0), some (.int x1), some (.int x2), some (.int x3), none, none, none, none], [.int 0], h)) rfl ?_
        obtain rfl := Option.some.inj hF
        exact en_ret (by decide +kernel : u_at kl_282 68 = some (.ireturn, [0])) rfl (hQ _ hW)
      · replace hF := i_neg b9 hF
        refine en_segs [(69, .iconst 1, []), (70, .istore_n 3, []), (71, .iconst 0, []), (72, .istore 4, [])] (by decide +kernel) (y := (74, [some (.ref a0), some (.int x1), some (.int x2), some (.int 1), some (.int 0), none, none, none], [], h)) rfl ?_
        exact (ih _ _ _ _ _ _ hF).2.1 _ _ _ _ rfl rfl rfl rfl  _ hW _ hQ
    · replace hF := i_neg b1 hF
      refine en_segs [(8, .aload_n 0, [])] (by decide +kernel) (y := (9, [some (.ref a0), some (.int x1), some (.int x2), some (.int x3), none, none, none, none], [.ref a0], h)) rfl ?_
      refine en_get (by decide +kernel : u_at kl_282 9 = some (.getfield 82, [12, 37])) hW ha0 (by decide) rfl ?_
      refine en_segs [(12, .iload_n 3, []), (13, .iconst 0, [])] (by decide +kernel) (y := (14, [some (.ref a0), some (.int x1), some (.int x2), some (.int x3), none, none, none, none], [.int 0, .int x3, .ref (aP d 12 37 a0)], h)) rfl ?_
      obtain ⟨c12_10, hc12_10, hF⟩ := ob_some hF
      refine en_zast (by decide +kernel : u_at kl_282 14 = some (.bastore, [])) hW ha0 rfl (by decide) hc12_10 (fun h hW => ?_)
      have hW : HW (mkw c0 c1 c2 c3 c4 c5 c6 c7 c8 c9 c10 c11 c12_10 c13) d h := hW
      refine en_segs [(15, .iinc 3 1, []), (18, .goto (-16), [2])] (by decide +kernel) (y := (2, [some (.ref a0), some (.int x1), some (.int x2), some (.int (x3 + 1)), none, none, none, none], [], h)) rfl ?_
      exact (ih _ _ _ _ _ _ hF).1 _ _ _ rfl rfl rfl rfl  _ hW _ hQ
  · intro x1 x2 x3 x4 e1 e2 e3 e4 h hW QQ hQ
    subst e1 e2 e3 e4
    refine en_segs [(74, .iload 4, []), (76, .iload_n 3, [])] (by decide +kernel) (y := (77, [some (.ref a0), some (.int x1), some (.int x2), some (.int x3), some (.int x4), none, none, none], [.int x3, .int x4], h)) rfl ?_
    refine en_ic_ge (by decide +kernel : u_at kl_282 77 = some (.if_icmp .ge 168, [245])) (fun b11 => ?_) (fun b11 => ?_)
    · replace hF := i_pos b11 hF
      refine en_segs [(245, .bipush (-2), [])] (by decide +kernel) (y := (247, [some (.ref a0), some (.int x1), some (.int x2), some (.int x3), some (.int x4), none, none, none], [.int (-2)], h)) rfl ?_
      obtain rfl := Option.some.inj hF
      exact en_ret (by decide +kernel : u_at kl_282 247 = some (.ireturn, [0])) rfl (hQ _ hW)
    · replace hF := i_neg b11 hF
      refine en_segs [(80, .aload_n 0, []), (81, .aload_n 0, [])] (by decide +kernel) (y := (82, [some (.ref a0), some (.int x1), some (.int x2), some (.int x3), some (.int x4), none, none, none], [.ref a0, .ref a0], h)) rfl ?_
      refine en_get (by decide +kernel : u_at kl_282 82 = some (.getfield 73, [12, 34])) hW ha0 (by decide) rfl ?_
      refine en_segs [(85, .iload 4, [])] (by decide +kernel) (y := (87, [some (.ref a0), some (.int x1), some (.int x2), some (.int x3), some (.int x4), none, none, none], [.int x4, .ref (aP d 12 34 a0), .ref a0], h)) rfl ?_
      obtain ⟨v12, hv12, hF⟩ := ob_some hF
      refine en_iald (by decide +kernel : u_at kl_282 87 = some (.iaload, [])) hW ha0 rfl (by decide) hv12 ?_
      obtain ⟨r13, hr13, hF⟩ := ob_some hF
      refine en_vv (r := []) (by decide +kernel : u_at kl_282 88 = some (.invokevirtual 502, [280, 1, 12])) hW ha0 rfl rfl (Nat.le_of_ble_eq_true rfl) (e_280 (D := D) (by omega) hW ha0 hr13) (fun h hW => ?_)
      have hW : HW (mkw c0 c1 c2 c3 c4 c5 c6 c7 c8 c9 c10 c11 r13 c13) d h := hW
      refine en_segs [(91, .iconst 0, []), (92, .istore 5, [])] (by decide +kernel) (y := (94, [some (.ref a0), some (.int x1), some (.int x2), some (.int x3), some (.int x4), some (.int 0), none, none], [], h)) rfl ?_
      exact (ih _ _ _ _ _ _ hF).2.2.1 _ _ _ _ _ rfl rfl rfl rfl  _ hW _ hQ
  · intro x1 x2 x3 x4 x5 e1 e2 e3 e4 h hW QQ hQ
    subst e1 e2 e3 e4
    refine en_segs [(94, .iload 5, []), (96, .aload_n 0, [])] (by decide +kernel) (y := (97, [some (.ref a0), some (.int x1), some (.int x2), some (.int x3), some (.int x4), some (.int x5), none, none], [.ref a0, .int x5], h)) rfl ?_
    refine en_get (by decide +kernel : u_at kl_282 97 = some (.getfield 496, [12, 39])) hW ha0 (by decide) rfl ?_
    refine en_ic_ge (by decide +kernel : u_at kl_282 100 = some (.if_icmp .ge 139, [239])) (fun b14 => ?_) (fun b14 => ?_)
    · replace hF := i_pos b14 hF
      refine en_segs [(239, .iinc 4 1, []), (242, .goto (-168), [74])] (by decide +kernel) (y := (74, [some (.ref a0), some (.int x1), some (.int x2), some (.int x3), some (.int (x4 + 1)), some (.int x5), none, none], [], h)) rfl ?_
      refine en_fg (fg_k (fg_k (fg_k (fg_k (fg_k (fg_d (fg_k (fg_k fg_0)))))))) ?_
      exact (ih _ _ _ _ _ _ hF).2.1 _ _ _ _ rfl rfl rfl rfl  _ hW _ hQ
    · replace hF := i_neg b14 hF
      refine en_segs [(103, .aload_n 0, [])] (by decide +kernel) (y := (104, [some (.ref a0), some (.int x1), some (.int x2), some (.int x3), some (.int x4), some (.int x5), none, none], [.ref a0], h)) rfl ?_
      refine en_get (by decide +kernel : u_at kl_282 104 = some (.getfield 86, [12, 38])) hW ha0 (by decide) rfl ?_
      refine en_segs [(107, .iload 5, [])] (by decide +kernel) (y := (109, [some (.ref a0), some (.int x1), some (.int x2), some (.int x3), some (.int x4), some (.int x5), none, none], [.int x5, .ref (aP d 12 38 a0)], h)) rfl ?_
      obtain ⟨v15, hv15, hF⟩ := ob_some hF
      refine en_iald (by decide +kernel : u_at kl_282 109 = some (.iaload, [])) hW ha0 rfl (by decide) hv15 ?_
      refine en_segs [(110, .istore 6, []), (112, .aload_n 0, [])] (by decide +kernel) (y := (113, [some (.ref a0), some (.int x1), some (.int x2), some (.int x3), some (.int x4), some (.int x5), some (.int v15), none], [.ref a0], h)) rfl ?_
      refine en_get (by decide +kernel : u_at kl_282 113 = some (.getfield 82, [12, 37])) hW ha0 (by decide) rfl ?_
      refine en_segs [(116, .iload 6, [])] (by decide +kernel) (y := (118, [some (.ref a0), some (.int x1), some (.int x2), some (.int x3), some (.int x4), some (.int x5), some (.int v15), none], [.int v15, .ref (aP d 12 37 a0)], h)) rfl ?_
      obtain ⟨v16, hv16, hF⟩ := ob_some hF
      refine en_zald (by decide +kernel : u_at kl_282 118 = some (.baload, [])) hW ha0 rfl (by decide) hv16 ?_
      refine en_if_eq (by decide +kernel : u_at kl_282 119 = some (.ifCond .eq 6, [125])) (fun b17 => ?_) (fun b17 => ?_)
      · replace hF := i_pos b17 hF
        refine en_segs [(125, .iload 6, []), (127, .aload_n 0, [])] (by decide +kernel) (y := (128, [some (.ref a0), some (.int x1), some (.int x2), some (.int x3), some (.int x4), some (.int x5), some (.int v15), none], [.ref a0, .int v15], h)) rfl ?_
        refine en_get (by decide +kernel : u_at kl_282 128 = some (.getfield 48, [12, 25])) hW ha0 (by decide) rfl ?_
        refine en_segs [(131, .iload_n 1, [])] (by decide +kernel) (y := (132, [some (.ref a0), some (.int x1), some (.int x2), some (.int x3), some (.int x4), some (.int x5), some (.int v15), none], [.int x1, .ref (aP d 12 25 a0), .int v15], h)) rfl ?_
        obtain ⟨v18, hv18, hF⟩ := ob_some hF
        refine en_iald (by decide +kernel : u_at kl_282 132 = some (.iaload, [])) hW ha0 rfl (by decide) hv18 ?_
        obtain ⟨v19, hv19, hF⟩ := ob_some hF
        refine en_idiv (by decide +kernel : u_at kl_282 133 = some (.idiv, [])) hv19 ?_
        refine en_segs [(134, .bipush 6, [])] (by decide +kernel) (y := (136, [some (.ref a0), some (.int x1), some (.int x2), some (.int x3), some (.int x4), some (.int x5), some (.int v15), none], [.int 6, .int v19], h)) rfl ?_
        obtain ⟨v20, hv20, hF⟩ := ob_some hF
        refine en_irem (by decide +kernel : u_at kl_282 136 = some (.irem, [])) hv20 ?_
        refine en_segs [(137, .iload_n 2, [])] (by decide +kernel) (y := (138, [some (.ref a0), some (.int x1), some (.int x2), some (.int x3), some (.int x4), some (.int x5), some (.int v15), none], [.int x2, .int v20], h)) rfl ?_
        obtain ⟨t21, hX, hK⟩ := ob_some hF
        have j22 : ∀ h : UH, HW (mkw c0 c1 c2 c3 c4 c5 c6 c7 c8 c9 c10 c11 c12 c13) d h → Ends (EX D) (u_at kl_282) (146, [some (.ref a0), some (.int x1), some (.int x2), some (.int x3), some (.int x4), some (.int x5), some (.int v15), none], [.int t21], h) QQ := by
          intro h hW
          have hF := hK
          refine en_segs [(146, .istore 7, []), (148, .iload_n 3, []), (149, .sipush 1000, [])] (by decide +kernel) (y := (152, [some (.ref a0), some (.int x1), some (.int x2), some (.int x3), some (.int x4), some (.int x5), some (.int v15), some (.int t21)], [.int 1000, .int x3], h)) rfl ?_
          refine en_ic_lt (by decide +kernel : u_at kl_282 152 = some (.if_icmp .lt 11, [163])) (fun b23 => ?_) (fun b23 => ?_)
          · replace hF := i_pos b23 hF
            exact (ih _ _ _ _ _ _ hF).2.2.2 _ _ _ _ _ _ _ rfl rfl rfl rfl  _ hW _ hQ
          · replace hF := i_neg b23 hF
            refine en_segs [(155, .iload 7, [])] (by decide +kernel) (y := (157, [some (.ref a0), some (.int x1), some (.int x2), some (.int x3), some (.int x4), some (.int x5), some (.int v15), some (.int t21)], [.int t21], h)) rfl ?_
            refine en_if_ne (by decide +kernel : u_at kl_282 157 = some (.ifCond .ne 6, [163])) (fun b24 => ?_) (fun b24 => ?_)
            · replace hF := i_pos b24 hF
              refine en_segs [(160, .bipush (-3), [])] (by decide +kernel) (y := (162, [some (.ref a0), some (.int x1), some (.int x2), some (.int x3), some (.int x4), some (.int x5), some (.int v15), some (.int t21)], [.int (-3)], h)) rfl ?_
              obtain rfl := Option.some.inj hF
              exact en_ret (by decide +kernel : u_at kl_282 162 = some (.ireturn, [0])) rfl (hQ _ hW)
            · replace hF := i_neg b24 hF
              exact (ih _ _ _ _ _ _ hF).2.2.2 _ _ _ _ _ _ _ rfl rfl rfl rfl  _ hW _ hQ
        have hF := hX
        refine en_ic_ne (by decide +kernel : u_at kl_282 138 = some (.if_icmp .ne 7, [145])) (fun b25 => ?_) (fun b25 => ?_)
        · replace hF := i_pos b25 hF
          refine en_segs [(141, .iconst 1, []), (142, .goto 4, [146])] (by decide +kernel) (y := (146, [some (.ref a0), some (.int x1), some (.int x2), some (.int x3), some (.int x4), some (.int x5), some (.int v15), none], [.int 1], h)) rfl ?_
          obtain rfl := Option.some.inj hF
          exact j22 _ hW
        · replace hF := i_neg b25 hF
          refine en_segs [(145, .iconst 0, [])] (by decide +kernel) (y := (146, [some (.ref a0), some (.int x1), some (.int x2), some (.int x3), some (.int x4), some (.int x5), some (.int v15), none], [.int 0], h)) rfl ?_
          obtain rfl := Option.some.inj hF
          exact j22 _ hW
      · replace hF := i_neg b17 hF
        refine en_segs [(122, .goto 111, [233]), (233, .iinc 5 1, []), (236, .goto (-142), [94])] (by decide +kernel) (y := (94, [some (.ref a0), some (.int x1), some (.int x2), some (.int x3), some (.int x4), some (.int (x5 + 1)), some (.int v15), none], [], h)) rfl ?_
        refine en_fg (fg_k (fg_k (fg_k (fg_k (fg_k (fg_k (fg_d (fg_k fg_0)))))))) ?_
        exact (ih _ _ _ _ _ _ hF).2.2.1 _ _ _ _ _ rfl rfl rfl rfl  _ hW _ hQ
  · intro x1 x2 x3 x4 x5 x6 x7 e1 e2 e3 e4 h hW QQ hQ
    subst e1 e2 e3 e4
    refine en_segs [(163, .aload_n 0, [])] (by decide +kernel) (y := (164, [some (.ref a0), some (.int x1), some (.int x2), some (.int x3), some (.int x4), some (.int x5), some (.int x6), some (.int x7)], [.ref a0], h)) rfl ?_
    refine en_get (by decide +kernel : u_at kl_282 164 = some (.getfield 82, [12, 37])) hW ha0 (by decide) rfl ?_
    refine en_segs [(167, .iload 6, []), (169, .iconst 1, [])] (by decide +kernel) (y := (170, [some (.ref a0), some (.int x1), some (.int x2), some (.int x3), some (.int x4), some (.int x5), some (.int x6), some (.int x7)], [.int 1, .int x6, .ref (aP d 12 37 a0)], h)) rfl ?_
    obtain ⟨c12_26, hc12_26, hF⟩ := ob_some hF
    refine en_zast (by decide +kernel : u_at kl_282 170 = some (.bastore, [])) hW ha0 rfl (by decide) hc12_26 (fun h hW => ?_)
    have hW : HW (mkw c0 c1 c2 c3 c4 c5 c6 c7 c8 c9 c10 c11 c12_26 c13) d h := hW
    refine en_segs [(171, .aload_n 0, [])] (by decide +kernel) (y := (172, [some (.ref a0), some (.int x1), some (.int x2), some (.int x3), some (.int x4), some (.int x5), some (.int x6), some (.int x7)], [.ref a0], h)) rfl ?_
    refine en_get (by decide +kernel : u_at kl_282 172 = some (.getfield 73, [12, 34])) hW ha0 (by decide) rfl ?_
    refine en_segs [(175, .iload_n 3, []), (176, .iload 6, [])] (by decide +kernel) (y := (178, [some (.ref a0), some (.int x1), some (.int x2), some (.int x3), some (.int x4), some (.int x5), some (.int x6), some (.int x7)], [.int x6, .int x3, .ref (aP d 12 34 a0)], h)) rfl ?_
    obtain ⟨c12_27, hc12_27, hF⟩ := ob_some hF
    refine en_iast (by decide +kernel : u_at kl_282 178 = some (.iastore, [])) hW ha0 rfl (by decide) hc12_27 (fun h hW => ?_)
    have hW : HW (mkw c0 c1 c2 c3 c4 c5 c6 c7 c8 c9 c10 c11 c12_27 c13) d h := hW
    refine en_segs [(179, .aload_n 0, [])] (by decide +kernel) (y := (180, [some (.ref a0), some (.int x1), some (.int x2), some (.int x3), some (.int x4), some (.int x5), some (.int x6), some (.int x7)], [.ref a0], h)) rfl ?_
    refine en_get (by decide +kernel : u_at kl_282 180 = some (.getfield 76, [12, 35])) hW ha0 (by decide) rfl ?_
    refine en_segs [(183, .iload_n 3, []), (184, .aload_n 0, [])] (by decide +kernel) (y := (185, [some (.ref a0), some (.int x1), some (.int x2), some (.int x3), some (.int x4), some (.int x5), some (.int x6), some (.int x7)], [.ref a0, .int x3, .ref (aP d 12 35 a0)], h)) rfl ?_
    refine en_get (by decide +kernel : u_at kl_282 185 = some (.getfield 76, [12, 35])) hW ha0 (by decide) rfl ?_
    refine en_segs [(188, .iload 4, [])] (by decide +kernel) (y := (190, [some (.ref a0), some (.int x1), some (.int x2), some (.int x3), some (.int x4), some (.int x5), some (.int x6), some (.int x7)], [.int x4, .ref (aP d 12 35 a0), .int x3, .ref (aP d 12 35 a0)], h)) rfl ?_
    obtain ⟨v28, hv28, hF⟩ := ob_some hF
    refine en_iald (by decide +kernel : u_at kl_282 190 = some (.iaload, [])) hW ha0 rfl (by decide) hv28 ?_
    refine en_segs [(191, .iconst 1, []), (192, .iadd, [])] (by decide +kernel) (y := (193, [some (.ref a0), some (.int x1), some (.int x2), some (.int x3), some (.int x4), some (.int x5), some (.int x6), some (.int x7)], [.int (v28 + 1), .int x3, .ref (aP d 12 35 a0)], h)) rfl ?_
    obtain ⟨c12_29, hc12_29, hF⟩ := ob_some hF
    refine en_iast (by decide +kernel : u_at kl_282 193 = some (.iastore, [])) hW ha0 rfl (by decide) hc12_29 (fun h hW => ?_)
    have hW : HW (mkw c0 c1 c2 c3 c4 c5 c6 c7 c8 c9 c10 c11 c12_29 c13) d h := hW
    refine en_segs [(194, .aload_n 0, [])] (by decide +kernel) (y := (195, [some (.ref a0), some (.int x1), some (.int x2), some (.int x3), some (.int x4), some (.int x5), some (.int x6), some (.int x7)], [.ref a0], h)) rfl ?_
    refine en_get (by decide +kernel : u_at kl_282 195 = some (.getfield 79, [12, 36])) hW ha0 (by decide) rfl ?_
    refine en_segs [(198, .iload_n 3, []), (199, .aload_n 0, [])] (by decide +kernel) (y := (200, [some (.ref a0), some (.int x1), some (.int x2), some (.int x3), some (.int x4), some (.int x5), some (.int x6), some (.int x7)], [.ref a0, .int x3, .ref (aP d 12 36 a0)], h)) rfl ?_
    refine en_get (by decide +kernel : u_at kl_282 200 = some (.getfield 79, [12, 36])) hW ha0 (by decide) rfl ?_
    refine en_segs [(203, .iload 4, [])] (by decide +kernel) (y := (205, [some (.ref a0), some (.int x1), some (.int x2), some (.int x3), some (.int x4), some (.int x5), some (.int x6), some (.int x7)], [.int x4, .ref (aP d 12 36 a0), .int x3, .ref (aP d 12 36 a0)], h)) rfl ?_
    obtain ⟨v30, hv30, hF⟩ := ob_some hF
    refine en_iald (by decide +kernel : u_at kl_282 205 = some (.iaload, [])) hW ha0 rfl (by decide) hv30 ?_
    refine en_segs [(206, .aload_n 0, []), (207, .aload_n 0, [])] (by decide +kernel) (y := (208, [some (.ref a0), some (.int x1), some (.int x2), some (.int x3), some (.int x4), some (.int x5), some (.int x6), some (.int x7)], [.ref a0, .ref a0, .int v30, .int x3, .ref (aP d 12 36 a0)], h)) rfl ?_
    refine en_get (by decide +kernel : u_at kl_282 208 = some (.getfield 73, [12, 34])) hW ha0 (by decide) rfl ?_
    refine en_segs [(211, .iload 4, [])] (by decide +kernel) (y := (213, [some (.ref a0), some (.int x1), some (.int x2), some (.int x3), some (.int x4), some (.int x5), some (.int x6), some (.int x7)], [.int x4, .ref (aP d 12 34 a0), .ref a0, .int v30, .int x3, .ref (aP d 12 36 a0)], h)) rfl ?_
    obtain ⟨v31, hv31, hF⟩ := ob_some hF
    refine en_iald (by decide +kernel : u_at kl_282 213 = some (.iaload, [])) hW ha0 rfl (by decide) hv31 ?_
    refine en_segs [(214, .iload 6, [])] (by decide +kernel) (y := (216, [some (.ref a0), some (.int x1), some (.int x2), some (.int x3), some (.int x4), some (.int x5), some (.int x6), some (.int x7)], [.int x6, .int v31, .ref a0, .int v30, .int x3, .ref (aP d 12 36 a0)], h)) rfl ?_
    obtain ⟨r32, hr32, hF⟩ := ob_some hF
    refine en_vi (r := [.int v30, .int x3, .ref (aP d 12 36 a0)]) (by decide +kernel : u_at kl_282 216 = some (.invokevirtual 505, [281, 2, 12])) hW ha0 rfl rfl (Nat.le_of_ble_eq_true rfl) (e_281 (D := D) (by omega) hW ha0 hr32) (fun h' q => ?_)
    subst q
    refine en_segs [(219, .iadd, [])] (by decide +kernel) (y := (220, [some (.ref a0), some (.int x1), some (.int x2), some (.int x3), some (.int x4), some (.int x5), some (.int x6), some (.int x7)], [.int (v30 + r32), .int x3, .ref (aP d 12 36 a0)], h)) rfl ?_
    obtain ⟨c12_33, hc12_33, hF⟩ := ob_some hF
    refine en_iast (by decide +kernel : u_at kl_282 220 = some (.iastore, [])) hW ha0 rfl (by decide) hc12_33 (fun h hW => ?_)
    have hW : HW (mkw c0 c1 c2 c3 c4 c5 c6 c7 c8 c9 c10 c11 c12_33 c13) d h := hW
    refine en_segs [(221, .iinc 3 1, []), (224, .iload 7, [])] (by decide +kernel) (y := (226, [some (.ref a0), some (.int x1), some (.int x2), some (.int (x3 + 1)), some (.int x4), some (.int x5), some (.int x6), some (.int x7)], [.int x7], h)) rfl ?_
    refine en_if_eq (by decide +kernel : u_at kl_282 226 = some (.ifCond .eq 7, [233])) (fun b34 => ?_) (fun b34 => ?_)
    · replace hF := i_pos b34 hF
      refine en_segs [(233, .iinc 5 1, []), (236, .goto (-142), [94])] (by decide +kernel) (y := (94, [some (.ref a0), some (.int x1), some (.int x2), some (.int (x3 + 1)), some (.int x4), some (.int (x5 + 1)), some (.int x6), some (.int x7)], [], h)) rfl ?_
      refine en_fg (fg_k (fg_k (fg_k (fg_k (fg_k (fg_k (fg_d (fg_d fg_0)))))))) ?_
      exact (ih _ _ _ _ _ _ hF).2.2.1 _ _ _ _ _ rfl rfl rfl rfl  _ hW _ hQ
    · replace hF := i_neg b34 hF
      refine en_segs [(229, .iload_n 3, []), (230, .iconst 1, []), (231, .isub, [])] (by decide +kernel) (y := (232, [some (.ref a0), some (.int x1), some (.int x2), some (.int (x3 + 1)), some (.int x4), some (.int x5), some (.int x6), some (.int x7)], [.int ((x3 + 1) - 1)], h)) rfl ?_
      obtain rfl := Option.some.inj hF
      exact en_ret (by decide +kernel : u_at kl_282 232 = some (.ireturn, [0])) rfl (hQ _ hW)
def F_282 (c12 : Cl) (a0 : Nat) (p1 : Int32) (p2 : Int32) : Option (Int32 × Cl) :=
  G_282 a0 0 [p1, p2, 0] [] [] c12
set_option maxRecDepth 100000 in
set_option maxHeartbeats 4000000 in
/-- HeadCountsModel.steals -/
theorem e_282 {D : Nat} {c0 c1 c2 c3 c4 c5 c6 c7 c8 c9 c10 c11 c12 c13 : Cl} {d : Ad} {h : UH} {a0 : Nat} {p1 : Int32} {p2 : Int32} {r : (Int32 × Cl)} (hD : 6 ≤ D) (hW : HW (mkw c0 c1 c2 c3 c4 c5 c6 c7 c8 c9 c10 c11 c12 c13) d h) (ha0 : aK d a0 = (0, 12, 0)) (hF : F_282 c12 a0 p1 p2 = some r) : ∃ q, EX D 282 [.ref a0, .int p1, .int p2] h q ∧ q.1 = some (.int r.1) ∧ HW (mkw c0 c1 c2 c3 c4 c5 c6 c7 c8 c9 c10 c11 r.2 c13) d q.2 := by
  obtain ⟨D, rfl⟩ : ∃ E, D = E + 1 := ⟨D - 1, by omega⟩
  unfold F_282 at hF
  refine ex_in (kl := kl_282) (nL := 8) rfl (by decide +kernel) (Nat.le_of_ble_eq_true rfl) ?_
  obtain ⟨QQ, hQQ⟩ : ∃ QQ : UR → Prop, QQ = (fun q : UR => q.1 = some (.int r.1) ∧ HW (mkw c0 c1 c2 c3 c4 c5 c6 c7 c8 c9 c10 c11 r.2 c13) d q.2) := ⟨_, rfl⟩
  rw [← hQQ]
  have hQ : ∀ h' : UH, HW (mkw c0 c1 c2 c3 c4 c5 c6 c7 c8 c9 c10 c11 r.2 c13) d h' → QQ (some (.int r.1), h') := fun h' p => by rw [hQQ]; exact ⟨rfl, p⟩
  clear hQQ
  show Ends (EX D) (u_at kl_282) (0, [some (.ref a0), some (.int p1), some (.int p2), none, none, none, none, none], [], h) QQ
  refine en_segs [(0, .iconst 0, []), (1, .istore_n 3, [])] (by decide +kernel) (y := (2, [some (.ref a0), some (.int p1), some (.int p2), some (.int 0), none, none, none, none], [], h)) rfl ?_
  exact (g_282 (D := D) hD ha0 _ _ _ _ _ _ hF).1 _ _ _ rfl rfl rfl rfl  _ hW _ hQ
def F_283 (c12 : Cl) (a0 : Nat) (p1 : Int32) (p2 : Int32) (p3 : Int32) : Option (Int32 × Cl) :=
  F_221 c12 a0 p1 >>= fun r1 =>
  if r1 = 0 then
  some ((-1), c12)
  else
  F_224 c12 a0 p1 >>= fun r3 =>
  if r3 = 0 then
  some ((-1), c12)
  else
  F_219 c12 a0 p2 >>= fun r5 =>
  if r5 = 0 then
  some ((-1), c12)
  else
  F_170 ((p3 : Int32).toInt64) 0 1 >>= fun r7 =>
  if r7 = 0 then
  some ((-1), c12)
  else
  F_282 c12 a0 p1 p2 >>= fun r9 =>
  ((if 0 ≤ r9.1 then
  if p3 = 0 then
  ald (cA r9.2 35 a0) 1001 r9.1 >>= fun v14 =>
  some v14
  else
  ald (cA r9.2 36 a0) 1001 r9.1 >>= fun v15 =>
  some v15
  else
  some r9.1) : Option (Int32)) >>= fun (t10 : Int32) =>
  some (t10, r9.2)
set_option maxRecDepth 100000 in
set_option maxHeartbeats 4000000 in
/-- HeadCountsModel.theft -/
theorem e_283 {D : Nat} {c0 c1 c2 c3 c4 c5 c6 c7 c8 c9 c10 c11 c12 c13 : Cl} {d : Ad} {h : UH} {a0 : Nat} {p1 : Int32} {p2 : Int32} {p3 : Int32} {r : (Int32 × Cl)} (hD : 7 ≤ D) (hW : HW (mkw c0 c1 c2 c3 c4 c5 c6 c7 c8 c9 c10 c11 c12 c13) d h) (ha0 : aK d a0 = (0, 12, 0)) (hF : F_283 c12 a0 p1 p2 p3 = some r) : ∃ q, EX D 283 [.ref a0, .int p1, .int p2, .int p3] h q ∧ q.1 = some (.int r.1) ∧ HW (mkw c0 c1 c2 c3 c4 c5 c6 c7 c8 c9 c10 c11 r.2 c13) d q.2 := by
  obtain ⟨D, rfl⟩ : ∃ E, D = E + 1 := ⟨D - 1, by omega⟩
  unfold F_283 at hF
  refine ex_in (kl := kl_283) (nL := 5) rfl (by decide +kernel) (Nat.le_of_ble_eq_true rfl) ?_
  obtain ⟨QQ, hQQ⟩ : ∃ QQ : UR → Prop, QQ = (fun q : UR => q.1 = some (.int r.1) ∧ HW (mkw c0 c1 c2 c3 c4 c5 c6 c7 c8 c9 c10 c11 r.2 c13) d q.2) := ⟨_, rfl⟩
  rw [← hQQ]
  have hQ : ∀ h' : UH, HW (mkw c0 c1 c2 c3 c4 c5 c6 c7 c8 c9 c10 c11 r.2 c13) d h' → QQ (some (.int r.1), h') := fun h' p => by rw [hQQ]; exact ⟨rfl, p⟩
  clear hQQ
  show Ends (EX D) (u_at kl_283) (0, [some (.ref a0), some (.int p1), some (.int p2), some (.int p3), none], [], h) QQ
  refine en_segs [(0, .aload_n 0, []), (1, .iload_n 1, [])] (by decide +kernel) (y := (2, [some (.ref a0), some (.int p1), some (.int p2), some (.int p3), none], [.int p1, .ref a0], h)) rfl ?_
  obtain ⟨r1, hr1, hF⟩ := ob_some hF
  refine en_vi (r := []) (by decide +kernel : u_at kl_283 2 = some (.invokevirtual 367, [221, 1, 12])) hW ha0 rfl rfl (Nat.le_of_ble_eq_true rfl) (e_221 (D := D) (by omega) hW ha0 hr1) (fun h' q => ?_)
  subst q
  refine en_if_eq (by decide +kernel : u_at kl_283 5 = some (.ifCond .eq 29, [34])) (fun b2 => ?_) (fun b2 => ?_)
  · replace hF := i_pos b2 hF
    refine en_segs [(34, .iconst (-1), [])] (by decide +kernel) (y := (35, [some (.ref a0), some (.int p1), some (.int p2), some (.int p3), none], [.int (-1)], h)) rfl ?_
    obtain rfl := Option.some.inj hF
    exact en_ret (by decide +kernel : u_at kl_283 35 = some (.ireturn, [0])) rfl (hQ _ hW)
  · replace hF := i_neg b2 hF
    refine en_segs [(8, .aload_n 0, []), (9, .iload_n 1, [])] (by decide +kernel) (y := (10, [some (.ref a0), some (.int p1), some (.int p2), some (.int p3), none], [.int p1, .ref a0], h)) rfl ?_
    obtain ⟨r3, hr3, hF⟩ := ob_some hF
    refine en_vi (r := []) (by decide +kernel : u_at kl_283 10 = some (.invokevirtual 346, [224, 1, 12])) hW ha0 rfl rfl (Nat.le_of_ble_eq_true rfl) (e_224 (D := D) (by omega) hW ha0 hr3) (fun h' q => ?_)
    subst q
    refine en_if_eq (by decide +kernel : u_at kl_283 13 = some (.ifCond .eq 21, [34])) (fun b4 => ?_) (fun b4 => ?_)
    · replace hF := i_pos b4 hF
      refine en_segs [(34, .iconst (-1), [])] (by decide +kernel) (y := (35, [some (.ref a0), some (.int p1), some (.int p2), some (.int p3), none], [.int (-1)], h)) rfl ?_
      obtain rfl := Option.some.inj hF
      exact en_ret (by decide +kernel : u_at kl_283 35 = some (.ireturn, [0])) rfl (hQ _ hW)
    · replace hF := i_neg b4 hF
      refine en_segs [(16, .aload_n 0, []), (17, .iload_n 2, [])] (by decide +kernel) (y := (18, [some (.ref a0), some (.int p1), some (.int p2), some (.int p3), none], [.int p2, .ref a0], h)) rfl ?_
      obtain ⟨r5, hr5, hF⟩ := ob_some hF
      refine en_vi (r := []) (by decide +kernel : u_at kl_283 18 = some (.invokevirtual 372, [219, 1, 12])) hW ha0 rfl rfl (Nat.le_of_ble_eq_true rfl) (e_219 (D := D) (by omega) hW ha0 hr5) (fun h' q => ?_)
      subst q
      refine en_if_eq (by decide +kernel : u_at kl_283 21 = some (.ifCond .eq 13, [34])) (fun b6 => ?_) (fun b6 => ?_)
      · replace hF := i_pos b6 hF
        refine en_segs [(34, .iconst (-1), [])] (by decide +kernel) (y := (35, [some (.ref a0), some (.int p1), some (.int p2), some (.int p3), none], [.int (-1)], h)) rfl ?_
        obtain rfl := Option.some.inj hF
        exact en_ret (by decide +kernel : u_at kl_283 35 = some (.ireturn, [0])) rfl (hQ _ hW)
      · replace hF := i_neg b6 hF
        refine en_segs [(24, .iload_n 3, []), (25, .i2l, []), (26, .lconst 0, []), (27, .lconst 1, [])] (by decide +kernel) (y := (28, [some (.ref a0), some (.int p1), some (.int p2), some (.int p3), none], [.long 1, .long 0, .long ((p3 : Int32).toInt64)], h)) rfl ?_
        obtain ⟨r7, hr7, hF⟩ := ob_some hF
        refine en_si (r := []) (by decide +kernel : u_at kl_283 28 = some (.invokestatic 161, [170, 3])) rfl rfl (Nat.le_of_ble_eq_true rfl) (e_170 (D := D) (by omega) hW hr7) (fun h' q => ?_)
        subst q
        refine en_if_ne (by decide +kernel : u_at kl_283 31 = some (.ifCond .ne 5, [36])) (fun b8 => ?_) (fun b8 => ?_)
        · replace hF := i_pos b8 hF
          refine en_segs [(34, .iconst (-1), [])] (by decide +kernel) (y := (35, [some (.ref a0), some (.int p1), some (.int p2), some (.int p3), none], [.int (-1)], h)) rfl ?_
          obtain rfl := Option.some.inj hF
          exact en_ret (by decide +kernel : u_at kl_283 35 = some (.ireturn, [0])) rfl (hQ _ hW)
        · replace hF := i_neg b8 hF
          refine en_segs [(36, .aload_n 0, []), (37, .iload_n 1, []), (38, .iload_n 2, [])] (by decide +kernel) (y := (39, [some (.ref a0), some (.int p1), some (.int p2), some (.int p3), none], [.int p2, .int p1, .ref a0], h)) rfl ?_
          obtain ⟨r9, hr9, hF⟩ := ob_some hF
          refine en_vi (r := []) (by decide +kernel : u_at kl_283 39 = some (.invokevirtual 508, [282, 2, 12])) hW ha0 rfl rfl (Nat.le_of_ble_eq_true rfl) (e_282 (D := D) (by omega) hW ha0 hr9) (fun h hW => ?_)
          have hW : HW (mkw c0 c1 c2 c3 c4 c5 c6 c7 c8 c9 c10 c11 r9.2 c13) d h := hW
          refine en_segs [(42, .istore 4, []), (44, .iload 4, [])] (by decide +kernel) (y := (46, [some (.ref a0), some (.int p1), some (.int p2), some (.int p3), some (.int r9.1)], [.int r9.1], h)) rfl ?_
          obtain ⟨t10, hX, hK⟩ := ob_some hF
          have j11 : ∀ h : UH, HW (mkw c0 c1 c2 c3 c4 c5 c6 c7 c8 c9 c10 c11 r9.2 c13) d h → Ends (EX D) (u_at kl_283) (75, [some (.ref a0), some (.int p1), some (.int p2), some (.int p3), some (.int r9.1)], [.int t10], h) QQ := by
            intro h hW
            have hF := hK
            obtain rfl := Option.some.inj hF
            exact en_ret (by decide +kernel : u_at kl_283 75 = some (.ireturn, [0])) rfl (hQ _ hW)
          have hF := hX
          refine en_if_ge (by decide +kernel : u_at kl_283 46 = some (.ifCond .ge 8, [54])) (fun b12 => ?_) (fun b12 => ?_)
          · replace hF := i_pos b12 hF
            refine en_segs [(54, .iload_n 3, [])] (by decide +kernel) (y := (55, [some (.ref a0), some (.int p1), some (.int p2), some (.int p3), some (.int r9.1)], [.int p3], h)) rfl ?_
            refine en_if_ne (by decide +kernel : u_at kl_283 55 = some (.ifCond .ne 13, [68])) (fun b13 => ?_) (fun b13 => ?_)
            · replace hF := i_pos b13 hF
              refine en_segs [(58, .aload_n 0, [])] (by decide +kernel) (y := (59, [some (.ref a0), some (.int p1), some (.int p2), some (.int p3), some (.int r9.1)], [.ref a0], h)) rfl ?_
              refine en_get (by decide +kernel : u_at kl_283 59 = some (.getfield 76, [12, 35])) hW ha0 (by decide) rfl ?_
              refine en_segs [(62, .iload 4, [])] (by decide +kernel) (y := (64, [some (.ref a0), some (.int p1), some (.int p2), some (.int p3), some (.int r9.1)], [.int r9.1, .ref (aP d 12 35 a0)], h)) rfl ?_
              obtain ⟨v14, hv14, hF⟩ := ob_some hF
              refine en_iald (by decide +kernel : u_at kl_283 64 = some (.iaload, [])) hW ha0 rfl (by decide) hv14 ?_
              refine en_segs [(65, .goto 10, [75])] (by decide +kernel) (y := (75, [some (.ref a0), some (.int p1), some (.int p2), some (.int p3), some (.int r9.1)], [.int v14], h)) rfl ?_
              obtain rfl := Option.some.inj hF
              exact j11 _ hW
            · replace hF := i_neg b13 hF
              refine en_segs [(68, .aload_n 0, [])] (by decide +kernel) (y := (69, [some (.ref a0), some (.int p1), some (.int p2), some (.int p3), some (.int r9.1)], [.ref a0], h)) rfl ?_
              refine en_get (by decide +kernel : u_at kl_283 69 = some (.getfield 79, [12, 36])) hW ha0 (by decide) rfl ?_
              refine en_segs [(72, .iload 4, [])] (by decide +kernel) (y := (74, [some (.ref a0), some (.int p1), some (.int p2), some (.int p3), some (.int r9.1)], [.int r9.1, .ref (aP d 12 36 a0)], h)) rfl ?_
              obtain ⟨v15, hv15, hF⟩ := ob_some hF
              refine en_iald (by decide +kernel : u_at kl_283 74 = some (.iaload, [])) hW ha0 rfl (by decide) hv15 ?_
              obtain rfl := Option.some.inj hF
              exact j11 _ hW
          · replace hF := i_neg b12 hF
            refine en_segs [(49, .iload 4, []), (51, .goto 24, [75])] (by decide +kernel) (y := (75, [some (.ref a0), some (.int p1), some (.int p2), some (.int p3), some (.int r9.1)], [.int r9.1], h)) rfl ?_
            obtain rfl := Option.some.inj hF
            exact j11 _ hW
def G_284 (a0 : Nat) (lab : Nat) (xs : List Int32) (ys : List Int64) (zs : List Nat) (c12 : Cl) : Option Cl := match lab, xs, ys, zs with
  | 0, [x1], [], [] =>
    if 46656 ≤ x1 then
    F_256 c12 a0 >>= fun r2 =>
    ast c12 42 a0 46656 0 r2 >>= fun c12_3 =>
    ald (cA c12_3 42 a0) 46656 0 >>= fun v4 =>
    ast c12_3 40 a0 46656 v4 0 >>= fun c12_5 =>
    G_284 a0 1 [1, 0] [] [] c12_5
    else
    ast c12 40 a0 46656 x1 (-1) >>= fun c12_6 =>
    G_284 a0 0 [x1 + 1] [] [] c12_6
  | 1, [x1, x2], [], [] =>
    if x1 ≤ x2 then
    some c12
    else
    ald (cA c12 42 a0) 46656 x2 >>= fun v8 =>
    F_255 c12 a0 v8 >>= fun r9 =>
    G_284 a0 2 [x1, x2, v8, 0] [] [] r9
  | 2, [x1, x2, x3, x4], [], [] =>
    ald (cA c12 20 a0) 221 2 >>= fun v10 =>
    if v10 ≤ x4 then
    G_284 a0 1 [x1, x2 + 1] [] [] c12
    else
    G_284 a0 3 [x1, x2, x3, x4, 0] [] [] c12
  | 3, [x1, x2, x3, x4, x5], [], [] =>
    ald (cA c12 20 a0) 221 0 >>= fun v12 =>
    if v12 ≤ x5 then
    G_284 a0 2 [x1, x2, x3, x4 + 1] [] [] c12
    else
    F_260 c12 a0 x4 x5 >>= fun r14 =>
    if r14 = 0 then
    G_284 a0 3 [x1, x2, x3, x4, x5 + 1] [] [] c12
    else
    ald (cA c12 25 a0) 6 x4 >>= fun v16 =>
    ald (cA c12 24 a0) 6 x4 >>= fun v17 =>
    ald (cA c12 40 a0) 46656 x3 >>= fun v18 =>
    ((if v18 = 0 then
    some ((6 * x4) + x5)
    else
    ald (cA c12 41 a0) 46656 x3 >>= fun v36 =>
    some v36) : Option (Int32)) >>= fun (t19 : Int32) =>
    ald (cA c12 40 a0) 46656 (x3 + (v16 * (x5 - v17))) >>= fun v21 =>
    ((if 0 ≤ v21 then
    ald (cA c12 40 a0) 46656 (x3 + (v16 * (x5 - v17))) >>= fun v25 =>
    ald (cA c12 40 a0) 46656 x3 >>= fun v26 =>
    if v25 = (v26 + 1) then
    ald (cA c12 41 a0) 46656 (x3 + (v16 * (x5 - v17))) >>= fun v28 =>
    if v28 ≤ t19 then
    some (x1, c12)
    else
    ast c12 41 a0 46656 (x3 + (v16 * (x5 - v17))) t19 >>= fun c12_30 =>
    some (x1, c12_30)
    else
    some (x1, c12)
    else
    ald (cA c12 40 a0) 46656 x3 >>= fun v31 =>
    ast c12 40 a0 46656 (x3 + (v16 * (x5 - v17))) (v31 + 1) >>= fun c12_32 =>
    ast c12_32 41 a0 46656 (x3 + (v16 * (x5 - v17))) t19 >>= fun c12_33 =>
    ast c12_33 42 a0 46656 x1 (x3 + (v16 * (x5 - v17))) >>= fun c12_34 =>
    some (x1 + 1, c12_34)) : Option (Int32 × Cl)) >>= fun (t22 : Int32 × Cl) =>
    G_284 a0 3 [t22.1, x2, x3, x4, x5 + 1] [] [] t22.2
  | _, _, _, _ => none
partial_fixpoint
set_option maxRecDepth 100000 in
set_option maxHeartbeats 4000000 in
theorem g_284 {D : Nat} (hD : 5 ≤ D + 1) {c0 c1 c2 c3 c4 c5 c6 c7 c8 c9 c10 c11 c13 : Cl} {d : Ad} {a0 : Nat} (ha0 : aK d a0 = (0, 12, 0)) : ∀ (lab : Nat) (xs : List Int32) (ys : List Int64) (zs : List Nat) (c12 : Cl) (r : Cl), G_284 a0 lab xs ys zs c12 = some r →
    (∀ (x1 : Int32), lab = 0 → xs = [x1] → ys = [] → zs = [] → ∀ h : UH, HW (mkw c0 c1 c2 c3 c4 c5 c6 c7 c8 c9 c10 c11 c12 c13) d h → ∀ QQ : UR → Prop, (∀ h' : UH, HW (mkw c0 c1 c2 c3 c4 c5 c6 c7 c8 c9 c10 c11 r c13) d h' → QQ (none, h')) → Ends (EX D) (u_at kl_284) (2, [some (.ref a0), some (.int x1), none, none, none, none, none, none], [], h) QQ) ∧
    (∀ (x1 : Int32) (x2 : Int32), lab = 1 → xs = [x1, x2] → ys = [] → zs = [] → ∀ h : UH, HW (mkw c0 c1 c2 c3 c4 c5 c6 c7 c8 c9 c10 c11 c12 c13) d h → ∀ QQ : UR → Prop, (∀ h' : UH, HW (mkw c0 c1 c2 c3 c4 c5 c6 c7 c8 c9 c10 c11 r c13) d h' → QQ (none, h')) → Ends (EX D) (u_at kl_284) (47, [some (.ref a0), some (.int x1), some (.int x2), none, none, none, none, none], [], h) QQ) ∧
    (∀ (x1 : Int32) (x2 : Int32) (x3 : Int32) (x4 : Int32), lab = 2 → xs = [x1, x2, x3, x4] → ys = [] → zs = [] → ∀ h : UH, HW (mkw c0 c1 c2 c3 c4 c5 c6 c7 c8 c9 c10 c11 c12 c13) d h → ∀ QQ : UR → Prop, (∀ h' : UH, HW (mkw c0 c1 c2 c3 c4 c5 c6 c7 c8 c9 c10 c11 r c13) d h' → QQ (none, h')) → Ends (EX D) (u_at kl_284) (67, [some (.ref a0), some (.int x1), some (.int x2), some (.int x3), some (.int x4), none, none, none], [], h) QQ) ∧
    (∀ (x1 : Int32) (x2 : Int32) (x3 : Int32) (x4 : Int32) (x5 : Int32), lab = 3 → xs = [x1, x2, x3, x4, x5] → ys = [] → zs = [] → ∀ h : UH, HW (mkw c0 c1 c2 c3 c4 c5 c6 c7 c8 c9 c10 c11 c12 c13) d h → ∀ QQ : UR → Prop, (∀ h' : UH, HW (mkw c0 c1 c2 c3 c4 c5 c6 c7 c8 c9 c10 c11 r c13) d h' → QQ (none, h')) → Ends (EX D) (u_at kl_284) (81, [some (.ref a0), some (.int x1), some (.int x2), some (.int x3), some (.int x4), some (.int x5), none, none], [], h) QQ) := by
  refine G_284.partial_correctness _ (motive := fun lab xs ys zs c12 r =>
    (∀ (x1 : Int32), lab = 0 → xs = [x1] → ys = [] → zs = [] → ∀ h : UH, HW (mkw c0 c1 c2 c3 c4 c5 c6 c7 c8 c9 c10 c11 c12 c13) d h → ∀ QQ : UR → Prop, (∀ h' : UH, HW (mkw c0 c1 c2 c3 c4 c5 c6 c7 c8 c9 c10 c11 r c13) d h' → QQ (none, h')) → Ends (EX D) (u_at kl_284) (2, [some (.ref a0), some (.int x1), none, none, none, none, none, none], [], h) QQ) ∧
    (∀ (x1 : Int32) (x2 : Int32), lab = 1 → xs = [x1, x2] → ys = [] → zs = [] → ∀ h : UH, HW (mkw c0 c1 c2 c3 c4 c5 c6 c7 c8 c9 c10 c11 c12 c13) d h → ∀ QQ : UR → Prop, (∀ h' : UH, HW (mkw c0 c1 c2 c3 c4 c5 c6 c7 c8 c9 c10 c11 r c13) d h' → QQ (none, h')) → Ends (EX D) (u_at kl_284) (47, [some (.ref a0), some (.int x1), some (.int x2), none, none, none, none, none], [], h) QQ) ∧
    (∀ (x1 : Int32) (x2 : Int32) (x3 : Int32) (x4 : Int32), lab = 2 → xs = [x1, x2, x3, x4] → ys = [] → zs = [] → ∀ h : UH, HW (mkw c0 c1 c2 c3 c4 c5 c6 c7 c8 c9 c10 c11 c12 c13) d h → ∀ QQ : UR → Prop, (∀ h' : UH, HW (mkw c0 c1 c2 c3 c4 c5 c6 c7 c8 c9 c10 c11 r c13) d h' → QQ (none, h')) → Ends (EX D) (u_at kl_284) (67, [some (.ref a0), some (.int x1), some (.int x2), some (.int x3), some (.int x4), none, none, none], [], h) QQ) ∧
    (∀ (x1 : Int32) (x2 : Int32) (x3 : Int32) (x4 : Int32) (x5 : Int32), lab = 3 → xs = [x1, x2, x3, x4, x5] → ys = [] → zs = [] → ∀ h : UH, HW (mkw c0 c1 c2 c3 c4 c5 c6 c7 c8 c9 c10 c11 c12 c13) d h → ∀ QQ : UR → Prop, (∀ h' : UH, HW (mkw c0 c1 c2 c3 c4 c5 c6 c7 c8 c9 c10 c11 r c13) d h' → QQ (none, h')) → Ends (EX D) (u_at kl_284) (81, [some (.ref a0), some (.int x1), some (.int x2), some (.int x3), some (.int x4), some (.int x5), none, none], [], h) QQ)) ?_
  intro G ih lab xs ys zs c12 r hF
  refine ⟨?_, ?_, ?_, ?_⟩
  · intro x1 e1 e2 e3 e4 h hW QQ hQ
    subst e1 e2 e3 e4
    refine en_segs [(2, .iload_n 1, []), (3, .ldc 51, [46656])] (by decide +kernel) (y := (5, [some (.ref a0), some (.int x1), none, none, none, none, none, none], [.int 46656, .int x1], h)) rfl ?_
    refine en_ic_ge (by decide +kernel : u_at kl_284 5 = some (.if_icmp .ge 16, [21])) (fun b1 => ?_) (fun b1 => ?_)
    · replace hF := i_pos b1 hF
      refine en_segs [(21, .aload_n 0, [])] (by decide +kernel) (y := (22, [some (.ref a0), some (.int x1), none, none, none, none, none, none], [.ref a0], h)) rfl ?_
      refine en_get (by decide +kernel : u_at kl_284 22 = some (.getfield 95, [12, 42])) hW ha0 (by decide) rfl ?_
      refine en_segs [(25, .iconst 0, []), (26, .aload_n 0, [])] (by decide +kernel) (y := (27, [some (.ref a0), some (.int x1), none, none, none, none, none, none], [.ref a0, .int 0, .ref (aP d 12 42 a0)], h)) rfl ?_
      obtain ⟨r2, hr2, hF⟩ := ob_some hF
      refine en_vi (r := [.int 0, .ref (aP d 12 42 a0)]) (by decide +kernel : u_at kl_284 27 = some (.invokevirtual 446, [256, 0, 12])) hW ha0 rfl rfl (Nat.le_of_ble_eq_true rfl) (e_256 (D := D) (by omega) hW ha0 hr2) (fun h' q => ?_)
      subst q
      obtain ⟨c12_3, hc12_3, hF⟩ := ob_some hF
      refine en_iast (by decide +kernel : u_at kl_284 30 = some (.iastore, [])) hW ha0 rfl (by decide) hc12_3 (fun h hW => ?_)
      have hW : HW (mkw c0 c1 c2 c3 c4 c5 c6 c7 c8 c9 c10 c11 c12_3 c13) d h := hW
      refine en_segs [(31, .aload_n 0, [])] (by decide +kernel) (y := (32, [some (.ref a0), some (.int x1), none, none, none, none, none, none], [.ref a0], h)) rfl ?_
      refine en_get (by decide +kernel : u_at kl_284 32 = some (.getfield 89, [12, 40])) hW ha0 (by decide) rfl ?_
      refine en_segs [(35, .aload_n 0, [])] (by decide +kernel) (y := (36, [some (.ref a0), some (.int x1), none, none, none, none, none, none], [.ref a0, .ref (aP d 12 40 a0)], h)) rfl ?_
      refine en_get (by decide +kernel : u_at kl_284 36 = some (.getfield 95, [12, 42])) hW ha0 (by decide) rfl ?_
      refine en_segs [(39, .iconst 0, [])] (by decide +kernel) (y := (40, [some (.ref a0), some (.int x1), none, none, none, none, none, none], [.int 0, .ref (aP d 12 42 a0), .ref (aP d 12 40 a0)], h)) rfl ?_
      obtain ⟨v4, hv4, hF⟩ := ob_some hF
      refine en_iald (by decide +kernel : u_at kl_284 40 = some (.iaload, [])) hW ha0 rfl (by decide) hv4 ?_
      refine en_segs [(41, .iconst 0, [])] (by decide +kernel) (y := (42, [some (.ref a0), some (.int x1), none, none, none, none, none, none], [.int 0, .int v4, .ref (aP d 12 40 a0)], h)) rfl ?_
      obtain ⟨c12_5, hc12_5, hF⟩ := ob_some hF
      refine en_iast (by decide +kernel : u_at kl_284 42 = some (.iastore, [])) hW ha0 rfl (by decide) hc12_5 (fun h hW => ?_)
      have hW : HW (mkw c0 c1 c2 c3 c4 c5 c6 c7 c8 c9 c10 c11 c12_5 c13) d h := hW
      refine en_segs [(43, .iconst 1, []), (44, .istore_n 1, []), (45, .iconst 0, []), (46, .istore_n 2, [])] (by decide +kernel) (y := (47, [some (.ref a0), some (.int 1), some (.int 0), none, none, none, none, none], [], h)) rfl ?_
      exact (ih _ _ _ _ _ _ hF).2.1 _ _ rfl rfl rfl rfl  _ hW _ hQ
    · replace hF := i_neg b1 hF
      refine en_segs [(8, .aload_n 0, [])] (by decide +kernel) (y := (9, [some (.ref a0), some (.int x1), none, none, none, none, none, none], [.ref a0], h)) rfl ?_
      refine en_get (by decide +kernel : u_at kl_284 9 = some (.getfield 89, [12, 40])) hW ha0 (by decide) rfl ?_
      refine en_segs [(12, .iload_n 1, []), (13, .iconst (-1), [])] (by decide +kernel) (y := (14, [some (.ref a0), some (.int x1), none, none, none, none, none, none], [.int (-1), .int x1, .ref (aP d 12 40 a0)], h)) rfl ?_
      obtain ⟨c12_6, hc12_6, hF⟩ := ob_some hF
      refine en_iast (by decide +kernel : u_at kl_284 14 = some (.iastore, [])) hW ha0 rfl (by decide) hc12_6 (fun h hW => ?_)
      have hW : HW (mkw c0 c1 c2 c3 c4 c5 c6 c7 c8 c9 c10 c11 c12_6 c13) d h := hW
      refine en_segs [(15, .iinc 1 1, []), (18, .goto (-16), [2])] (by decide +kernel) (y := (2, [some (.ref a0), some (.int (x1 + 1)), none, none, none, none, none, none], [], h)) rfl ?_
      exact (ih _ _ _ _ _ _ hF).1 _ rfl rfl rfl rfl  _ hW _ hQ
  · intro x1 x2 e1 e2 e3 e4 h hW QQ hQ
    subst e1 e2 e3 e4
    refine en_segs [(47, .iload_n 2, []), (48, .iload_n 1, [])] (by decide +kernel) (y := (49, [some (.ref a0), some (.int x1), some (.int x2), none, none, none, none, none], [.int x1, .int x2], h)) rfl ?_
    refine en_ic_ge (by decide +kernel : u_at kl_284 49 = some (.if_icmp .ge 212, [261])) (fun b7 => ?_) (fun b7 => ?_)
    · replace hF := i_pos b7 hF
      obtain rfl := Option.some.inj hF
      exact en_ret (by decide +kernel : u_at kl_284 261 = some (.return_, [])) rfl (hQ _ hW)
    · replace hF := i_neg b7 hF
      refine en_segs [(52, .aload_n 0, [])] (by decide +kernel) (y := (53, [some (.ref a0), some (.int x1), some (.int x2), none, none, none, none, none], [.ref a0], h)) rfl ?_
      refine en_get (by decide +kernel : u_at kl_284 53 = some (.getfield 95, [12, 42])) hW ha0 (by decide) rfl ?_
      refine en_segs [(56, .iload_n 2, [])] (by decide +kernel) (y := (57, [some (.ref a0), some (.int x1), some (.int x2), none, none, none, none, none], [.int x2, .ref (aP d 12 42 a0)], h)) rfl ?_
      obtain ⟨v8, hv8, hF⟩ := ob_some hF
      refine en_iald (by decide +kernel : u_at kl_284 57 = some (.iaload, [])) hW ha0 rfl (by decide) hv8 ?_
      refine en_segs [(58, .istore_n 3, []), (59, .aload_n 0, []), (60, .iload_n 3, [])] (by decide +kernel) (y := (61, [some (.ref a0), some (.int x1), some (.int x2), some (.int v8), none, none, none, none], [.int v8, .ref a0], h)) rfl ?_
      obtain ⟨r9, hr9, hF⟩ := ob_some hF
      refine en_vv (r := []) (by decide +kernel : u_at kl_284 61 = some (.invokevirtual 434, [255, 1, 12])) hW ha0 rfl rfl (Nat.le_of_ble_eq_true rfl) (e_255 (D := D) (by omega) hW ha0 hr9) (fun h hW => ?_)
      have hW : HW (mkw c0 c1 c2 c3 c4 c5 c6 c7 c8 c9 c10 c11 r9 c13) d h := hW
      refine en_segs [(64, .iconst 0, []), (65, .istore 4, [])] (by decide +kernel) (y := (67, [some (.ref a0), some (.int x1), some (.int x2), some (.int v8), some (.int 0), none, none, none], [], h)) rfl ?_
      exact (ih _ _ _ _ _ _ hF).2.2.1 _ _ _ _ rfl rfl rfl rfl  _ hW _ hQ
  · intro x1 x2 x3 x4 e1 e2 e3 e4 h hW QQ hQ
    subst e1 e2 e3 e4
    refine en_segs [(67, .iload 4, []), (69, .aload_n 0, [])] (by decide +kernel) (y := (70, [some (.ref a0), some (.int x1), some (.int x2), some (.int x3), some (.int x4), none, none, none], [.ref a0, .int x4], h)) rfl ?_
    refine en_get (by decide +kernel : u_at kl_284 70 = some (.getfield 39, [12, 20])) hW ha0 (by decide) rfl ?_
    refine en_segs [(73, .iconst 2, [])] (by decide +kernel) (y := (74, [some (.ref a0), some (.int x1), some (.int x2), some (.int x3), some (.int x4), none, none, none], [.int 2, .ref (aP d 12 20 a0), .int x4], h)) rfl ?_
    obtain ⟨v10, hv10, hF⟩ := ob_some hF
    refine en_iald (by decide +kernel : u_at kl_284 74 = some (.iaload, [])) hW ha0 rfl (by decide) hv10 ?_
    refine en_ic_ge (by decide +kernel : u_at kl_284 75 = some (.if_icmp .ge 180, [255])) (fun b11 => ?_) (fun b11 => ?_)
    · replace hF := i_pos b11 hF
      refine en_segs [(255, .iinc 2 1, []), (258, .goto (-211), [47])] (by decide +kernel) (y := (47, [some (.ref a0), some (.int x1), some (.int (x2 + 1)), some (.int x3), some (.int x4), none, none, none], [], h)) rfl ?_
      refine en_fg (fg_k (fg_k (fg_k (fg_d (fg_d (fg_k (fg_k (fg_k fg_0)))))))) ?_
      exact (ih _ _ _ _ _ _ hF).2.1 _ _ rfl rfl rfl rfl  _ hW _ hQ
    · replace hF := i_neg b11 hF
      refine en_segs [(78, .iconst 0, []), (79, .istore 5, [])] (by decide +kernel) (y := (81, [some (.ref a0), some (.int x1), some (.int x2), some (.int x3), some (.int x4), some (.int 0), none, none], [], h)) rfl ?_
      exact (ih _ _ _ _ _ _ hF).2.2.2 _ _ _ _ _ rfl rfl rfl rfl  _ hW _ hQ
  · intro x1 x2 x3 x4 x5 e1 e2 e3 e4 h hW QQ hQ
    subst e1 e2 e3 e4
    refine en_segs [(81, .iload 5, []), (83, .aload_n 0, [])] (by decide +kernel) (y := (84, [some (.ref a0), some (.int x1), some (.int x2), some (.int x3), some (.int x4), some (.int x5), none, none], [.ref a0, .int x5], h)) rfl ?_
    refine en_get (by decide +kernel : u_at kl_284 84 = some (.getfield 39, [12, 20])) hW ha0 (by decide) rfl ?_
    refine en_segs [(87, .iconst 0, [])] (by decide +kernel) (y := (88, [some (.ref a0), some (.int x1), some (.int x2), some (.int x3), some (.int x4), some (.int x5), none, none], [.int 0, .ref (aP d 12 20 a0), .int x5], h)) rfl ?_
    obtain ⟨v12, hv12, hF⟩ := ob_some hF
    refine en_iald (by decide +kernel : u_at kl_284 88 = some (.iaload, [])) hW ha0 rfl (by decide) hv12 ?_
    refine en_ic_ge (by decide +kernel : u_at kl_284 89 = some (.if_icmp .ge 160, [249])) (fun b13 => ?_) (fun b13 => ?_)
    · replace hF := i_pos b13 hF
      refine en_segs [(249, .iinc 4 1, []), (252, .goto (-185), [67])] (by decide +kernel) (y := (67, [some (.ref a0), some (.int x1), some (.int x2), some (.int x3), some (.int (x4 + 1)), some (.int x5), none, none], [], h)) rfl ?_
      refine en_fg (fg_k (fg_k (fg_k (fg_k (fg_k (fg_d (fg_k (fg_k fg_0)))))))) ?_
      exact (ih _ _ _ _ _ _ hF).2.2.1 _ _ _ _ rfl rfl rfl rfl  _ hW _ hQ
    · replace hF := i_neg b13 hF
      refine en_segs [(92, .aload_n 0, []), (93, .iload 4, []), (95, .iload 5, [])] (by decide +kernel) (y := (97, [some (.ref a0), some (.int x1), some (.int x2), some (.int x3), some (.int x4), some (.int x5), none, none], [.int x5, .int x4, .ref a0], h)) rfl ?_
      obtain ⟨r14, hr14, hF⟩ := ob_some hF
      refine en_vi (r := []) (by decide +kernel : u_at kl_284 97 = some (.invokevirtual 443, [260, 2, 12])) hW ha0 rfl rfl (Nat.le_of_ble_eq_true rfl) (e_260 (D := D) (by omega) hW ha0 hr14) (fun h' q => ?_)
      subst q
      refine en_if_ne (by decide +kernel : u_at kl_284 100 = some (.ifCond .ne 6, [106])) (fun b15 => ?_) (fun b15 => ?_)
      · replace hF := i_pos b15 hF
        refine en_segs [(103, .goto 140, [243]), (243, .iinc 5 1, []), (246, .goto (-165), [81])] (by decide +kernel) (y := (81, [some (.ref a0), some (.int x1), some (.int x2), some (.int x3), some (.int x4), some (.int (x5 + 1)), none, none], [], h)) rfl ?_
        exact (ih _ _ _ _ _ _ hF).2.2.2 _ _ _ _ _ rfl rfl rfl rfl  _ hW _ hQ
      · replace hF := i_neg b15 hF
        refine en_segs [(106, .iload_n 3, []), (107, .aload_n 0, [])] (by decide +kernel) (y := (108, [some (.ref a0), some (.int x1), some (.int x2), some (.int x3), some (.int x4), some (.int x5), none, none], [.ref a0, .int x3], h)) rfl ?_
        refine en_get (by decide +kernel : u_at kl_284 108 = some (.getfield 48, [12, 25])) hW ha0 (by decide) rfl ?_
        refine en_segs [(111, .iload 4, [])] (by decide +kernel) (y := (113, [some (.ref a0), some (.int x1), some (.int x2), some (.int x3), some (.int x4), some (.int x5), none, none], [.int x4, .ref (aP d 12 25 a0), .int x3], h)) rfl ?_
        obtain ⟨v16, hv16, hF⟩ := ob_some hF
        refine en_iald (by decide +kernel : u_at kl_284 113 = some (.iaload, [])) hW ha0 rfl (by decide) hv16 ?_
        refine en_segs [(114, .iload 5, []), (116, .aload_n 0, [])] (by decide +kernel) (y := (117, [some (.ref a0), some (.int x1), some (.int x2), some (.int x3), some (.int x4), some (.int x5), none, none], [.ref a0, .int x5, .int v16, .int x3], h)) rfl ?_
        refine en_get (by decide +kernel : u_at kl_284 117 = some (.getfield 45, [12, 24])) hW ha0 (by decide) rfl ?_
        refine en_segs [(120, .iload 4, [])] (by decide +kernel) (y := (122, [some (.ref a0), some (.int x1), some (.int x2), some (.int x3), some (.int x4), some (.int x5), none, none], [.int x4, .ref (aP d 12 24 a0), .int x5, .int v16, .int x3], h)) rfl ?_
        obtain ⟨v17, hv17, hF⟩ := ob_some hF
        refine en_iald (by decide +kernel : u_at kl_284 122 = some (.iaload, [])) hW ha0 rfl (by decide) hv17 ?_
        refine en_segs [(123, .isub, []), (124, .imul, []), (125, .iadd, []), (126, .istore 6, []), (128, .aload_n 0, [])] (by decide +kernel) (y := (129, [some (.ref a0), some (.int x1), some (.int x2), some (.int x3), some (.int x4), some (.int x5), some (.int (x3 + (v16 * (x5 - v17)))), none], [.ref a0], h)) rfl ?_
        refine en_get (by decide +kernel : u_at kl_284 129 = some (.getfield 89, [12, 40])) hW ha0 (by decide) rfl ?_
        refine en_segs [(132, .iload_n 3, [])] (by decide +kernel) (y := (133, [some (.ref a0), some (.int x1), some (.int x2), some (.int x3), some (.int x4), some (.int x5), some (.int (x3 + (v16 * (x5 - v17)))), none], [.int x3, .ref (aP d 12 40 a0)], h)) rfl ?_
        obtain ⟨v18, hv18, hF⟩ := ob_some hF
        refine en_iald (by decide +kernel : u_at kl_284 133 = some (.iaload, [])) hW ha0 rfl (by decide) hv18 ?_
        obtain ⟨t19, hX, hK⟩ := ob_some hF
        have j20 : ∀ h : UH, HW (mkw c0 c1 c2 c3 c4 c5 c6 c7 c8 c9 c10 c11 c12 c13) d h → Ends (EX D) (u_at kl_284) (154, [some (.ref a0), some (.int x1), some (.int x2), some (.int x3), some (.int x4), some (.int x5), some (.int (x3 + (v16 * (x5 - v17)))), none], [.int t19], h) QQ := by
          intro h hW
          have hF := hK
          refine en_segs [(154, .istore 7, []), (156, .aload_n 0, [])] (by decide +kernel) (y := (157, [some (.ref a0), some (.int x1), some (.int x2), some (.int x3), some (.int x4), some (.int x5), some (.int (x3 + (v16 * (x5 - v17)))), some (.int t19)], [.ref a0], h)) rfl ?_
          refine en_get (by decide +kernel : u_at kl_284 157 = some (.getfield 89, [12, 40])) hW ha0 (by decide) rfl ?_
          refine en_segs [(160, .iload 6, [])] (by decide +kernel) (y := (162, [some (.ref a0), some (.int x1), some (.int x2), some (.int x3), some (.int x4), some (.int x5), some (.int (x3 + (v16 * (x5 - v17)))), some (.int t19)], [.int (x3 + (v16 * (x5 - v17))), .ref (aP d 12 40 a0)], h)) rfl ?_
          obtain ⟨v21, hv21, hF⟩ := ob_some hF
          refine en_iald (by decide +kernel : u_at kl_284 162 = some (.iaload, [])) hW ha0 rfl (by decide) hv21 ?_
          obtain ⟨t22, hX, hK⟩ := ob_some hF
          have j23 : ∀ h : UH, HW (mkw c0 c1 c2 c3 c4 c5 c6 c7 c8 c9 c10 c11 t22.2 c13) d h → Ends (EX D) (u_at kl_284) (243, [some (.ref a0), some (.int t22.1), some (.int x2), some (.int x3), some (.int x4), some (.int x5), some (.int (x3 + (v16 * (x5 - v17)))), some (.int t19)], [], h) QQ := by
            intro h hW
            have hF := hK
            refine en_segs [(243, .iinc 5 1, []), (246, .goto (-165), [81])] (by decide +kernel) (y := (81, [some (.ref a0), some (.int t22.1), some (.int x2), some (.int x3), some (.int x4), some (.int (x5 + 1)), some (.int (x3 + (v16 * (x5 - v17)))), some (.int t19)], [], h)) rfl ?_
            refine en_fg (fg_k (fg_k (fg_k (fg_k (fg_k (fg_k (fg_d (fg_d fg_0)))))))) ?_
            exact (ih _ _ _ _ _ _ hF).2.2.2 _ _ _ _ _ rfl rfl rfl rfl  _ hW _ hQ
          have hF := hX
          refine en_if_ge (by decide +kernel : u_at kl_284 163 = some (.ifCond .ge 41, [204])) (fun b24 => ?_) (fun b24 => ?_)
          · replace hF := i_pos b24 hF
            refine en_segs [(204, .aload_n 0, [])] (by decide +kernel) (y := (205, [some (.ref a0), some (.int x1), some (.int x2), some (.int x3), some (.int x4), some (.int x5), some (.int (x3 + (v16 * (x5 - v17)))), some (.int t19)], [.ref a0], h)) rfl ?_
            refine en_get (by decide +kernel : u_at kl_284 205 = some (.getfield 89, [12, 40])) hW ha0 (by decide) rfl ?_
            refine en_segs [(208, .iload 6, [])] (by decide +kernel) (y := (210, [some (.ref a0), some (.int x1), some (.int x2), some (.int x3), some (.int x4), some (.int x5), some (.int (x3 + (v16 * (x5 - v17)))), some (.int t19)], [.int (x3 + (v16 * (x5 - v17))), .ref (aP d 12 40 a0)], h)) rfl ?_
            obtain ⟨v25, hv25, hF⟩ := ob_some hF
            refine en_iald (by decide +kernel : u_at kl_284 210 = some (.iaload, [])) hW ha0 rfl (by decide) hv25 ?_
            refine en_segs [(211, .aload_n 0, [])] (by decide +kernel) (y := (212, [some (.ref a0), some (.int x1), some (.int x2), some (.int x3), some (.int x4), some (.int x5), some (.int (x3 + (v16 * (x5 - v17)))), some (.int t19)], [.ref a0, .int v25], h)) rfl ?_
            refine en_get (by decide +kernel : u_at kl_284 212 = some (.getfield 89, [12, 40])) hW ha0 (by decide) rfl ?_
            refine en_segs [(215, .iload_n 3, [])] (by decide +kernel) (y := (216, [some (.ref a0), some (.int x1), some (.int x2), some (.int x3), some (.int x4), some (.int x5), some (.int (x3 + (v16 * (x5 - v17)))), some (.int t19)], [.int x3, .ref (aP d 12 40 a0), .int v25], h)) rfl ?_
            obtain ⟨v26, hv26, hF⟩ := ob_some hF
            refine en_iald (by decide +kernel : u_at kl_284 216 = some (.iaload, [])) hW ha0 rfl (by decide) hv26 ?_
            refine en_segs [(217, .iconst 1, []), (218, .iadd, [])] (by decide +kernel) (y := (219, [some (.ref a0), some (.int x1), some (.int x2), some (.int x3), some (.int x4), some (.int x5), some (.int (x3 + (v16 * (x5 - v17)))), some (.int t19)], [.int (v26 + 1), .int v25], h)) rfl ?_
            refine en_ic_ne (by decide +kernel : u_at kl_284 219 = some (.if_icmp .ne 24, [243])) (fun b27 => ?_) (fun b27 => ?_)
            · replace hF := i_pos b27 hF
              refine en_segs [(222, .iload 7, []), (224, .aload_n 0, [])] (by decide +kernel) (y := (225, [some (.ref a0), some (.int x1), some (.int x2), some (.int x3), some (.int x4), some (.int x5), some (.int (x3 + (v16 * (x5 - v17)))), some (.int t19)], [.ref a0, .int t19], h)) rfl ?_
              refine en_get (by decide +kernel : u_at kl_284 225 = some (.getfield 92, [12, 41])) hW ha0 (by decide) rfl ?_
              refine en_segs [(228, .iload 6, [])] (by decide +kernel) (y := (230, [some (.ref a0), some (.int x1), some (.int x2), some (.int x3), some (.int x4), some (.int x5), some (.int (x3 + (v16 * (x5 - v17)))), some (.int t19)], [.int (x3 + (v16 * (x5 - v17))), .ref (aP d 12 41 a0), .int t19], h)) rfl ?_
              obtain ⟨v28, hv28, hF⟩ := ob_some hF
              refine en_iald (by decide +kernel : u_at kl_284 230 = some (.iaload, [])) hW ha0 rfl (by decide) hv28 ?_
              refine en_ic_ge (by decide +kernel : u_at kl_284 231 = some (.if_icmp .ge 12, [243])) (fun b29 => ?_) (fun b29 => ?_)
              · replace hF := i_pos b29 hF
                obtain rfl := Option.some.inj hF
                exact j23 _ hW
              · replace hF := i_neg b29 hF
                refine en_segs [(234, .aload_n 0, [])] (by decide +kernel) (y := (235, [some (.ref a0), some (.int x1), some (.int x2), some (.int x3), some (.int x4), some (.int x5), some (.int (x3 + (v16 * (x5 - v17)))), some (.int t19)], [.ref a0], h)) rfl ?_
                refine en_get (by decide +kernel : u_at kl_284 235 = some (.getfield 92, [12, 41])) hW ha0 (by decide) rfl ?_
                refine en_segs [(238, .iload 6, []), (240, .iload 7, [])] (by decide +kernel) (y := (242, [some (.ref a0), some (.int x1), some (.int x2), some (.int x3), some (.int x4), some (.int x5), some (.int (x3 + (v16 * (x5 - v17)))), some (.int t19)], [.int t19, .int (x3 + (v16 * (x5 - v17))), .ref (aP d 12 41 a0)], h)) rfl ?_
                obtain ⟨c12_30, hc12_30, hF⟩ := ob_some hF
                refine en_iast (by decide +kernel : u_at kl_284 242 = some (.iastore, [])) hW ha0 rfl (by decide) hc12_30 (fun h hW => ?_)
                have hW : HW (mkw c0 c1 c2 c3 c4 c5 c6 c7 c8 c9 c10 c11 c12_30 c13) d h := hW
                obtain rfl := Option.some.inj hF
                exact j23 _ hW
            · replace hF := i_neg b27 hF
              obtain rfl := Option.some.inj hF
              exact j23 _ hW
          · replace hF := i_neg b24 hF
            refine en_segs [(166, .aload_n 0, [])] (by decide +kernel) (y := (167, [some (.ref a0), some (.int x1), some (.int x2), some (.int x3), some (.int x4), some (.int x5), some (.int (x3 + (v16 * (x5 - v17)))), some (.int t19)], [.ref a0], h)) rfl ?_
            refine en_get (by decide +kernel : u_at kl_284 167 = some (.getfield 89, [12, 40])) hW ha0 (by decide) rfl ?_
            refine en_segs [(170, .iload 6, []), (172, .aload_n 0, [])] (by decide +kernel) (y := (173, [some (.ref a0), some (.int x1), some (.int x2), some (.int x3), some (.int x4), some (.int x5), some (.int (x3 + (v16 * (x5 - v17)))), some (.int t19)], [.ref a0, .int (x3 + (v16 * (x5 - v17))), .ref (aP d 12 40 a0)], h)) rfl ?_
            refine en_get (by decide +kernel : u_at kl_284 173 = some (.getfield 89, [12, 40])) hW ha0 (by decide) rfl ?_
            refine en_segs [(176, .iload_n 3, [])] (by decide +kernel) (y := (177, [some (.ref a0), some (.int x1), some (.int x2), some (.int x3), some (.int x4), some (.int x5), some (.int (x3 + (v16 * (x5 - v17)))), some (.int t19)], [.int x3, .ref (aP d 12 40 a0), .int (x3 + (v16 * (x5 - v17))), .ref (aP d 12 40 a0)], h)) rfl ?_
            obtain ⟨v31, hv31, hF⟩ := ob_some hF
            refine en_iald (by decide +kernel : u_at kl_284 177 = some (.iaload, [])) hW ha0 rfl (by decide) hv31 ?_
            refine en_segs [(178, .iconst 1, []), (179, .iadd, [])] (by decide +kernel) (y := (180, [some (.ref a0), some (.int x1), some (.int x2), some (.int x3), some (.int x4), some (.int x5), some (.int (x3 + (v16 * (x5 - v17)))), some (.int t19)], [.int (v31 + 1), .int (x3 + (v16 * (x5 - v17))), .ref (aP d 12 40 a0)], h)) rfl ?_
            obtain ⟨c12_32, hc12_32, hF⟩ := ob_some hF
            refine en_iast (by decide +kernel : u_at kl_284 180 = some (.iastore, [])) hW ha0 rfl (by decide) hc12_32 (fun h hW => ?_)
            have hW : HW (mkw c0 c1 c2 c3 c4 c5 c6 c7 c8 c9 c10 c11 c12_32 c13) d h := hW
            refine en_segs [(181, .aload_n 0, [])] (by decide +kernel) (y := (182, [some (.ref a0), some (.int x1), some (.int x2), some (.int x3), some (.int x4), some (.int x5), some (.int (x3 + (v16 * (x5 - v17)))), some (.int t19)], [.ref a0], h)) rfl ?_
            refine en_get (by decide +kernel : u_at kl_284 182 = some (.getfield 92, [12, 41])) hW ha0 (by decide) rfl ?_
            refine en_segs [(185, .iload 6, []), (187, .iload 7, [])] (by decide +kernel) (y := (189, [some (.ref a0), some (.int x1), some (.int x2), some (.int x3), some (.int x4), some (.int x5), some (.int (x3 + (v16 * (x5 - v17)))), some (.int t19)], [.int t19, .int (x3 + (v16 * (x5 - v17))), .ref (aP d 12 41 a0)], h)) rfl ?_
            obtain ⟨c12_33, hc12_33, hF⟩ := ob_some hF
            refine en_iast (by decide +kernel : u_at kl_284 189 = some (.iastore, [])) hW ha0 rfl (by decide) hc12_33 (fun h hW => ?_)
            have hW : HW (mkw c0 c1 c2 c3 c4 c5 c6 c7 c8 c9 c10 c11 c12_33 c13) d h := hW
            refine en_segs [(190, .aload_n 0, [])] (by decide +kernel) (y := (191, [some (.ref a0), some (.int x1), some (.int x2), some (.int x3), some (.int x4), some (.int x5), some (.int (x3 + (v16 * (x5 - v17)))), some (.int t19)], [.ref a0], h)) rfl ?_
            refine en_get (by decide +kernel : u_at kl_284 191 = some (.getfield 95, [12, 42])) hW ha0 (by decide) rfl ?_
            refine en_segs [(194, .iload_n 1, []), (195, .iload 6, [])] (by decide +kernel) (y := (197, [some (.ref a0), some (.int x1), some (.int x2), some (.int x3), some (.int x4), some (.int x5), some (.int (x3 + (v16 * (x5 - v17)))), some (.int t19)], [.int (x3 + (v16 * (x5 - v17))), .int x1, .ref (aP d 12 42 a0)], h)) rfl ?_
            obtain ⟨c12_34, hc12_34, hF⟩ := ob_some hF
            refine en_iast (by decide +kernel : u_at kl_284 197 = some (.iastore, [])) hW ha0 rfl (by decide) hc12_34 (fun h hW => ?_)
            have hW : HW (mkw c0 c1 c2 c3 c4 c5 c6 c7 c8 c9 c10 c11 c12_34 c13) d h := hW
            refine en_segs [(198, .iinc 1 1, []), (201, .goto 42, [243])] (by decide +kernel) (y := (243, [some (.ref a0), some (.int (x1 + 1)), some (.int x2), some (.int x3), some (.int x4), some (.int x5), some (.int (x3 + (v16 * (x5 - v17)))), some (.int t19)], [], h)) rfl ?_
            obtain rfl := Option.some.inj hF
            exact j23 _ hW
        have hF := hX
        refine en_if_ne (by decide +kernel : u_at kl_284 134 = some (.ifCond .ne 14, [148])) (fun b35 => ?_) (fun b35 => ?_)
        · replace hF := i_pos b35 hF
          refine en_segs [(137, .bipush 6, []), (139, .iload 4, []), (141, .imul, []), (142, .iload 5, []), (144, .iadd, []), (145, .goto 9, [154])] (by decide +kernel) (y := (154, [some (.ref a0), some (.int x1), some (.int x2), some (.int x3), some (.int x4), some (.int x5), some (.int (x3 + (v16 * (x5 - v17)))), none], [.int ((6 * x4) + x5)], h)) rfl ?_
          obtain rfl := Option.some.inj hF
          exact j20 _ hW
        · replace hF := i_neg b35 hF
          refine en_segs [(148, .aload_n 0, [])] (by decide +kernel) (y := (149, [some (.ref a0), some (.int x1), some (.int x2), some (.int x3), some (.int x4), some (.int x5), some (.int (x3 + (v16 * (x5 - v17)))), none], [.ref a0], h)) rfl ?_
          refine en_get (by decide +kernel : u_at kl_284 149 = some (.getfield 92, [12, 41])) hW ha0 (by decide) rfl ?_
          refine en_segs [(152, .iload_n 3, [])] (by decide +kernel) (y := (153, [some (.ref a0), some (.int x1), some (.int x2), some (.int x3), some (.int x4), some (.int x5), some (.int (x3 + (v16 * (x5 - v17)))), none], [.int x3, .ref (aP d 12 41 a0)], h)) rfl ?_
          obtain ⟨v36, hv36, hF⟩ := ob_some hF
          refine en_iald (by decide +kernel : u_at kl_284 153 = some (.iaload, [])) hW ha0 rfl (by decide) hv36 ?_
          obtain rfl := Option.some.inj hF
          exact j20 _ hW
def F_284 (c12 : Cl) (a0 : Nat) : Option Cl :=
  G_284 a0 0 [0] [] [] c12
set_option maxRecDepth 100000 in
set_option maxHeartbeats 4000000 in
/-- HeadCountsModel.spreads -/
theorem e_284 {D : Nat} {c0 c1 c2 c3 c4 c5 c6 c7 c8 c9 c10 c11 c12 c13 : Cl} {d : Ad} {h : UH} {a0 : Nat} {r : Cl} (hD : 5 ≤ D) (hW : HW (mkw c0 c1 c2 c3 c4 c5 c6 c7 c8 c9 c10 c11 c12 c13) d h) (ha0 : aK d a0 = (0, 12, 0)) (hF : F_284 c12 a0 = some r) : ∃ q, EX D 284 [.ref a0] h q ∧ q.1 = none ∧ HW (mkw c0 c1 c2 c3 c4 c5 c6 c7 c8 c9 c10 c11 r c13) d q.2 := by
  obtain ⟨D, rfl⟩ : ∃ E, D = E + 1 := ⟨D - 1, by omega⟩
  unfold F_284 at hF
  refine ex_in (kl := kl_284) (nL := 8) rfl (by decide +kernel) (Nat.le_of_ble_eq_true rfl) ?_
  obtain ⟨QQ, hQQ⟩ : ∃ QQ : UR → Prop, QQ = (fun q : UR => q.1 = none ∧ HW (mkw c0 c1 c2 c3 c4 c5 c6 c7 c8 c9 c10 c11 r c13) d q.2) := ⟨_, rfl⟩
  rw [← hQQ]
  have hQ : ∀ h' : UH, HW (mkw c0 c1 c2 c3 c4 c5 c6 c7 c8 c9 c10 c11 r c13) d h' → QQ (none, h') := fun h' p => by rw [hQQ]; exact ⟨rfl, p⟩
  clear hQQ
  show Ends (EX D) (u_at kl_284) (0, [some (.ref a0), none, none, none, none, none, none, none], [], h) QQ
  refine en_segs [(0, .iconst 0, []), (1, .istore_n 1, [])] (by decide +kernel) (y := (2, [some (.ref a0), some (.int 0), none, none, none, none, none, none], [], h)) rfl ?_
  exact (g_284 (D := D) hD ha0 _ _ _ _ _ _ hF).1 _ rfl rfl rfl rfl  _ hW _ hQ
def G_285 (a0 : Nat) (lab : Nat) (xs : List Int32) (ys : List Int64) (zs : List Nat) (c12 : Cl) : Option (Int32 × Cl) := match lab, xs, ys, zs with
  | 0, [x1, x2, x3, x4, x5], [], [] =>
    if 46656 ≤ x5 then
    if 0 ≤ x4 then
    ((if x3 = 0 then
    ald (cA c12 40 a0) 46656 x4 >>= fun v13 =>
    some v13
    else
    ald (cA c12 40 a0) 46656 x4 >>= fun v14 =>
    if v14 = 0 then
    some (-2)
    else
    if x3 = 1 then
    ald (cA c12 41 a0) 46656 x4 >>= fun v17 =>
    idv v17 6 >>= fun v18 =>
    some v18
    else
    ald (cA c12 41 a0) 46656 x4 >>= fun v19 =>
    irm v19 6 >>= fun v20 =>
    some v20) : Option (Int32)) >>= fun (t10 : Int32) =>
    some (t10, c12)
    else
    some ((-2), c12)
    else
    ald (cA c12 40 a0) 46656 x5 >>= fun v21 =>
    ((if 0 ≤ v21 then
    F_255 c12 a0 x5 >>= fun r25 =>
    F_258 r25 a0 x1 >>= fun r26 =>
    if r26 = x2 then
    if x4 < 0 then
    some (x5, r25)
    else
    ald (cA r25 40 a0) 46656 x5 >>= fun v29 =>
    ald (cA r25 40 a0) 46656 x4 >>= fun v30 =>
    if v29 < v30 then
    some (x5, r25)
    else
    ald (cA r25 40 a0) 46656 x5 >>= fun v32 =>
    ald (cA r25 40 a0) 46656 x4 >>= fun v33 =>
    if v32 = v33 then
    ald (cA r25 40 a0) 46656 x5 >>= fun v35 =>
    if v35 ≤ 0 then
    some (x4, r25)
    else
    ald (cA r25 41 a0) 46656 x5 >>= fun v37 =>
    ald (cA r25 41 a0) 46656 x4 >>= fun v38 =>
    if v38 ≤ v37 then
    some (x4, r25)
    else
    some (x5, r25)
    else
    some (x4, r25)
    else
    some (x4, r25)
    else
    some (x4, c12)) : Option (Int32 × Cl)) >>= fun (t22 : Int32 × Cl) =>
    G_285 a0 0 [x1, x2, x3, t22.1, x5 + 1] [] [] t22.2
  | _, _, _, _ => none
partial_fixpoint
set_option maxRecDepth 100000 in
set_option maxHeartbeats 4000000 in
theorem g_285 {D : Nat} (hD : 6 ≤ D + 1) {c0 c1 c2 c3 c4 c5 c6 c7 c8 c9 c10 c11 c13 : Cl} {d : Ad} {a0 : Nat} (ha0 : aK d a0 = (0, 12, 0)) : ∀ (lab : Nat) (xs : List Int32) (ys : List Int64) (zs : List Nat) (c12 : Cl) (r : (Int32 × Cl)), G_285 a0 lab xs ys zs c12 = some r →
    (∀ (x1 : Int32) (x2 : Int32) (x3 : Int32) (x4 : Int32) (x5 : Int32), lab = 0 → xs = [x1, x2, x3, x4, x5] → ys = [] → zs = [] → ∀ h : UH, HW (mkw c0 c1 c2 c3 c4 c5 c6 c7 c8 c9 c10 c11 c12 c13) d h → ∀ QQ : UR → Prop, (∀ h' : UH, HW (mkw c0 c1 c2 c3 c4 c5 c6 c7 c8 c9 c10 c11 r.2 c13) d h' → QQ (some (.int r.1), h')) → Ends (EX D) (u_at kl_285) (44, [some (.ref a0), some (.int x1), some (.int x2), some (.int x3), some (.int x4), some (.int x5)], [], h) QQ) := by
  refine G_285.partial_correctness _ (motive := fun lab xs ys zs c12 r =>
    (∀ (x1 : Int32) (x2 : Int32) (x3 : Int32) (x4 : Int32) (x5 : Int32), lab = 0 → xs = [x1, x2, x3, x4, x5] → ys = [] → zs = [] → ∀ h : UH, HW (mkw c0 c1 c2 c3 c4 c5 c6 c7 c8 c9 c10 c11 c12 c13) d h → ∀ QQ : UR → Prop, (∀ h' : UH, HW (mkw c0 c1 c2 c3 c4 c5 c6 c7 c8 c9 c10 c11 r.2 c13) d h' → QQ (some (.int r.1), h')) → Ends (EX D) (u_at kl_285) (44, [some (.ref a0), some (.int x1), some (.int x2), some (.int x3), some (.int x4), some (.int x5)], [], h) QQ)) ?_
  intro G ih lab xs ys zs c12 r hF
  · intro x1 x2 x3 x4 x5 e1 e2 e3 e4 h hW QQ hQ
    subst e1 e2 e3 e4
    refine en_segs [(44, .iload 5, []), (46, .ldc 51, [46656])] (by decide +kernel) (y := (48, [some (.ref a0), some (.int x1), some (.int x2), some (.int x3), some (.int x4), some (.int x5)], [.int 46656, .int x5], h)) rfl ?_
    refine en_ic_ge (by decide +kernel : u_at kl_285 48 = some (.if_icmp .ge 110, [158])) (fun b8 => ?_) (fun b8 => ?_)
    · replace hF := i_pos b8 hF
      refine en_segs [(158, .iload 4, [])] (by decide +kernel) (y := (160, [some (.ref a0), some (.int x1), some (.int x2), some (.int x3), some (.int x4), some (.int x5)], [.int x4], h)) rfl ?_
      refine en_if_ge (by decide +kernel : u_at kl_285 160 = some (.ifCond .ge 6, [166])) (fun b9 => ?_) (fun b9 => ?_)
      · replace hF := i_pos b9 hF
        refine en_segs [(166, .iload_n 3, [])] (by decide +kernel) (y := (167, [some (.ref a0), some (.int x1), some (.int x2), some (.int x3), some (.int x4), some (.int x5)], [.int x3], h)) rfl ?_
        obtain ⟨t10, hX, hK⟩ := ob_some hF
        have j11 : ∀ h : UH, HW (mkw c0 c1 c2 c3 c4 c5 c6 c7 c8 c9 c10 c11 c12 c13) d h → Ends (EX D) (u_at kl_285) (223, [some (.ref a0), some (.int x1), some (.int x2), some (.int x3), some (.int x4), some (.int x5)], [.int t10], h) QQ := by
          intro h hW
          have hF := hK
          obtain rfl := Option.some.inj hF
          exact en_ret (by decide +kernel : u_at kl_285 223 = some (.ireturn, [0])) rfl (hQ _ hW)
        have hF := hX
        refine en_if_ne (by decide +kernel : u_at kl_285 167 = some (.ifCond .ne 13, [180])) (fun b12 => ?_) (fun b12 => ?_)
        · replace hF := i_pos b12 hF
          refine en_segs [(170, .aload_n 0, [])] (by decide +kernel) (y := (171, [some (.ref a0), some (.int x1), some (.int x2), some (.int x3), some (.int x4), some (.int x5)], [.ref a0], h)) rfl ?_
          refine en_get (by decide +kernel : u_at kl_285 171 = some (.getfield 89, [12, 40])) hW ha0 (by decide) rfl ?_
          refine en_segs [(174, .iload 4, [])] (by decide +kernel) (y := (176, [some (.ref a0), some (.int x1), some (.int x2), some (.int x3), some (.int x4), some (.int x5)], [.int x4, .ref (aP d 12 40 a0)], h)) rfl ?_
          obtain ⟨v13, hv13, hF⟩ := ob_some hF
          refine en_iald (by decide +kernel : u_at kl_285 176 = some (.iaload, [])) hW ha0 rfl (by decide) hv13 ?_
          refine en_segs [(177, .goto 46, [223])] (by decide +kernel) (y := (223, [some (.ref a0), some (.int x1), some (.int x2), some (.int x3), some (.int x4), some (.int x5)], [.int v13], h)) rfl ?_
          obtain rfl := Option.some.inj hF
          exact j11 _ hW
        · replace hF := i_neg b12 hF
          refine en_segs [(180, .aload_n 0, [])] (by decide +kernel) (y := (181, [some (.ref a0), some (.int x1), some (.int x2), some (.int x3), some (.int x4), some (.int x5)], [.ref a0], h)) rfl ?_
          refine en_get (by decide +kernel : u_at kl_285 181 = some (.getfield 89, [12, 40])) hW ha0 (by decide) rfl ?_
          refine en_segs [(184, .iload 4, [])] (by decide +kernel) (y := (186, [some (.ref a0), some (.int x1), some (.int x2), some (.int x3), some (.int x4), some (.int x5)], [.int x4, .ref (aP d 12 40 a0)], h)) rfl ?_
          obtain ⟨v14, hv14, hF⟩ := ob_some hF
          refine en_iald (by decide +kernel : u_at kl_285 186 = some (.iaload, [])) hW ha0 rfl (by decide) hv14 ?_
          refine en_if_ne (by decide +kernel : u_at kl_285 187 = some (.ifCond .ne 8, [195])) (fun b15 => ?_) (fun b15 => ?_)
          · replace hF := i_pos b15 hF
            refine en_segs [(190, .bipush (-2), []), (192, .goto 31, [223])] (by decide +kernel) (y := (223, [some (.ref a0), some (.int x1), some (.int x2), some (.int x3), some (.int x4), some (.int x5)], [.int (-2)], h)) rfl ?_
            obtain rfl := Option.some.inj hF
            exact j11 _ hW
          · replace hF := i_neg b15 hF
            refine en_segs [(195, .iload_n 3, []), (196, .iconst 1, [])] (by decide +kernel) (y := (197, [some (.ref a0), some (.int x1), some (.int x2), some (.int x3), some (.int x4), some (.int x5)], [.int 1, .int x3], h)) rfl ?_
            refine en_ic_ne (by decide +kernel : u_at kl_285 197 = some (.if_icmp .ne 16, [213])) (fun b16 => ?_) (fun b16 => ?_)
            · replace hF := i_pos b16 hF
              refine en_segs [(200, .aload_n 0, [])] (by decide +kernel) (y := (201, [some (.ref a0), some (.int x1), some (.int x2), some (.int x3), some (.int x4), some (.int x5)], [.ref a0], h)) rfl ?_
              refine en_get (by decide +kernel : u_at kl_285 201 = some (.getfield 92, [12, 41])) hW ha0 (by decide) rfl ?_
              refine en_segs [(204, .iload 4, [])] (by decide +kernel) (y := (206, [some (.ref a0), some (.int x1), some (.int x2), some (.int x3), some (.int x4), some (.int x5)], [.int x4, .ref (aP d 12 41 a0)], h)) rfl ?_
              obtain ⟨v17, hv17, hF⟩ := ob_some hF
              refine en_iald (by decide +kernel : u_at kl_285 206 = some (.iaload, [])) hW ha0 rfl (by decide) hv17 ?_
              refine en_segs [(207, .bipush 6, [])] (by decide +kernel) (y := (209, [some (.ref a0), some (.int x1), some (.int x2), some (.int x3), some (.int x4), some (.int x5)], [.int 6, .int v17], h)) rfl ?_
              obtain ⟨v18, hv18, hF⟩ := ob_some hF
              refine en_idiv (by decide +kernel : u_at kl_285 209 = some (.idiv, [])) hv18 ?_
              refine en_segs [(210, .goto 13, [223])] (by decide +kernel) (y := (223, [some (.ref a0), some (.int x1), some (.int x2), some (.int x3), some (.int x4), some (.int x5)], [.int v18], h)) rfl ?_
              obtain rfl := Option.some.inj hF
              exact j11 _ hW
            · replace hF := i_neg b16 hF
              refine en_segs [(213, .aload_n 0, [])] (by decide +kernel) (y := (214, [some (.ref a0), some (.int x1), some (.int x2), some (.int x3), some (.int x4), some (.int x5)], [.ref a0], h)) rfl ?_
              refine en_get (by decide +kernel : u_at kl_285 214 = some (.getfield 92, [12, 41])) hW ha0 (by decide) rfl ?_
              refine en_segs [(217, .iload 4, [])] (by decide +kernel) (y := (219, [some (.ref a0), some (.int x1), some (.int x2), some (.int x3), some (.int x4), some (.int x5)], [.int x4, .ref (aP d 12 41 a0)], h)) rfl ?_
              obtain ⟨v19, hv19, hF⟩ := ob_some hF
              refine en_iald (by decide +kernel : u_at kl_285 219 = some (.iaload, [])) hW ha0 rfl (by decide) hv19 ?_
              refine en_segs [(220, .bipush 6, [])] (by decide +kernel) (y := (222, [some (.ref a0), some (.int x1), some (.int x2), some (.int x3), some (.int x4), some (.int x5)], [.int 6, .int v19], h)) rfl ?_
              obtain ⟨v20, hv20, hF⟩ := ob_some hF
              refine en_irem (by decide +kernel : u_at kl_285 222 = some (.irem, [])) hv20 ?_
              obtain rfl := Option.some.inj hF
              exact j11 _ hW
      · replace hF := i_neg b9 hF
        refine en_segs [(163, .bipush (-2), [])] (by decide +kernel) (y := (165, [some (.ref a0), some (.int x1), some (.int x2), some (.int x3), some (.int x4), some (.int x5)], [.int (-2)], h)) rfl ?_
        obtain rfl := Option.some.inj hF
        exact en_ret (by decide +kernel : u_at kl_285 165 = some (.ireturn, [0])) rfl (hQ _ hW)
    · replace hF := i_neg b8 hF
      refine en_segs [(51, .aload_n 0, [])] (by decide +kernel) (y := (52, [some (.ref a0), some (.int x1), some (.int x2), some (.int x3), some (.int x4), some (.int x5)], [.ref a0], h)) rfl ?_
      refine en_get (by decide +kernel : u_at kl_285 52 = some (.getfield 89, [12, 40])) hW ha0 (by decide) rfl ?_
      refine en_segs [(55, .iload 5, [])] (by decide +kernel) (y := (57, [some (.ref a0), some (.int x1), some (.int x2), some (.int x3), some (.int x4), some (.int x5)], [.int x5, .ref (aP d 12 40 a0)], h)) rfl ?_
      obtain ⟨v21, hv21, hF⟩ := ob_some hF
      refine en_iald (by decide +kernel : u_at kl_285 57 = some (.iaload, [])) hW ha0 rfl (by decide) hv21 ?_
      obtain ⟨t22, hX, hK⟩ := ob_some hF
      have j23 : ∀ h : UH, HW (mkw c0 c1 c2 c3 c4 c5 c6 c7 c8 c9 c10 c11 t22.2 c13) d h → Ends (EX D) (u_at kl_285) (152, [some (.ref a0), some (.int x1), some (.int x2), some (.int x3), some (.int t22.1), some (.int x5)], [], h) QQ := by
        intro h hW
        have hF := hK
        refine en_segs [(152, .iinc 5 1, []), (155, .goto (-111), [44])] (by decide +kernel) (y := (44, [some (.ref a0), some (.int x1), some (.int x2), some (.int x3), some (.int t22.1), some (.int (x5 + 1))], [], h)) rfl ?_
        exact (ih _ _ _ _ _ _ hF) _ _ _ _ _ rfl rfl rfl rfl  _ hW _ hQ
      have hF := hX
      refine en_if_ge (by decide +kernel : u_at kl_285 58 = some (.ifCond .ge 6, [64])) (fun b24 => ?_) (fun b24 => ?_)
      · replace hF := i_pos b24 hF
        refine en_segs [(64, .aload_n 0, []), (65, .iload 5, [])] (by decide +kernel) (y := (67, [some (.ref a0), some (.int x1), some (.int x2), some (.int x3), some (.int x4), some (.int x5)], [.int x5, .ref a0], h)) rfl ?_
        obtain ⟨r25, hr25, hF⟩ := ob_some hF
        refine en_vv (r := []) (by decide +kernel : u_at kl_285 67 = some (.invokevirtual 434, [255, 1, 12])) hW ha0 rfl rfl (Nat.le_of_ble_eq_true rfl) (e_255 (D := D) (by omega) hW ha0 hr25) (fun h hW => ?_)
        have hW : HW (mkw c0 c1 c2 c3 c4 c5 c6 c7 c8 c9 c10 c11 r25 c13) d h := hW
        refine en_segs [(70, .aload_n 0, []), (71, .iload_n 1, [])] (by decide +kernel) (y := (72, [some (.ref a0), some (.int x1), some (.int x2), some (.int x3), some (.int x4), some (.int x5)], [.int x1, .ref a0], h)) rfl ?_
        obtain ⟨r26, hr26, hF⟩ := ob_some hF
        refine en_vi (r := []) (by decide +kernel : u_at kl_285 72 = some (.invokevirtual 437, [258, 1, 12])) hW ha0 rfl rfl (Nat.le_of_ble_eq_true rfl) (e_258 (D := D) (by omega) hW ha0 hr26) (fun h' q => ?_)
        subst q
        refine en_segs [(75, .iload_n 2, [])] (by decide +kernel) (y := (76, [some (.ref a0), some (.int x1), some (.int x2), some (.int x3), some (.int x4), some (.int x5)], [.int x2, .int r26], h)) rfl ?_
        refine en_ic_eq (by decide +kernel : u_at kl_285 76 = some (.if_icmp .eq 6, [82])) (fun b27 => ?_) (fun b27 => ?_)
        · replace hF := i_pos b27 hF
          refine en_segs [(82, .iload 4, [])] (by decide +kernel) (y := (84, [some (.ref a0), some (.int x1), some (.int x2), some (.int x3), some (.int x4), some (.int x5)], [.int x4], h)) rfl ?_
          refine en_if_lt (by decide +kernel : u_at kl_285 84 = some (.ifCond .lt 64, [148])) (fun b28 => ?_) (fun b28 => ?_)
          · replace hF := i_pos b28 hF
            refine en_segs [(148, .iload 5, []), (150, .istore 4, [])] (by decide +kernel) (y := (152, [some (.ref a0), some (.int x1), some (.int x2), some (.int x3), some (.int x5), some (.int x5)], [], h)) rfl ?_
            obtain rfl := Option.some.inj hF
            exact j23 _ hW
          · replace hF := i_neg b28 hF
            refine en_segs [(87, .aload_n 0, [])] (by decide +kernel) (y := (88, [some (.ref a0), some (.int x1), some (.int x2), some (.int x3), some (.int x4), some (.int x5)], [.ref a0], h)) rfl ?_
            refine en_get (by decide +kernel : u_at kl_285 88 = some (.getfield 89, [12, 40])) hW ha0 (by decide) rfl ?_
            refine en_segs [(91, .iload 5, [])] (by decide +kernel) (y := (93, [some (.ref a0), some (.int x1), some (.int x2), some (.int x3), some (.int x4), some (.int x5)], [.int x5, .ref (aP d 12 40 a0)], h)) rfl ?_
            obtain ⟨v29, hv29, hF⟩ := ob_some hF
            refine en_iald (by decide +kernel : u_at kl_285 93 = some (.iaload, [])) hW ha0 rfl (by decide) hv29 ?_
            refine en_segs [(94, .aload_n 0, [])] (by decide +kernel) (y := (95, [some (.ref a0), some (.int x1), some (.int x2), some (.int x3), some (.int x4), some (.int x5)], [.ref a0, .int v29], h)) rfl ?_
            refine en_get (by decide +kernel : u_at kl_285 95 = some (.getfield 89, [12, 40])) hW ha0 (by decide) rfl ?_
            refine en_segs [(98, .iload 4, [])] (by decide +kernel) (y := (100, [some (.ref a0), some (.int x1), some (.int x2), some (.int x3), some (.int x4), some (.int x5)], [.int x4, .ref (aP d 12 40 a0), .int v29], h)) rfl ?_
            obtain ⟨v30, hv30, hF⟩ := ob_some hF
            refine en_iald (by decide +kernel : u_at kl_285 100 = some (.iaload, [])) hW ha0 rfl (by decide) hv30 ?_
            refine en_ic_lt (by decide +kernel : u_at kl_285 101 = some (.if_icmp .lt 47, [148])) (fun b31 => ?_) (fun b31 => ?_)
            · replace hF := i_pos b31 hF
              refine en_segs [(148, .iload 5, []), (150, .istore 4, [])] (by decide +kernel) (y := (152, [some (.ref a0), some (.int x1), some (.int x2), some (.int x3), some (.int x5), some (.int x5)], [], h)) rfl ?_
              obtain rfl := Option.some.inj hF
              exact j23 _ hW
            · replace hF := i_neg b31 hF
              refine en_segs [(104, .aload_n 0, [])] (by decide +kernel) (y := (105, [some (.ref a0), some (.int x1), some (.int x2), some (.int x3), some (.int x4), some (.int x5)], [.ref a0], h)) rfl ?_
              refine en_get (by decide +kernel : u_at kl_285 105 = some (.getfield 89, [12, 40])) hW ha0 (by decide) rfl ?_
              refine en_segs [(108, .iload 5, [])] (by decide +kernel) (y := (110, [some (.ref a0), some (.int x1), some (.int x2), some (.int x3), some (.int x4), some (.int x5)], [.int x5, .ref (aP d 12 40 a0)], h)) rfl ?_
              obtain ⟨v32, hv32, hF⟩ := ob_some hF
              refine en_iald (by decide +kernel : u_at kl_285 110 = some (.iaload, [])) hW ha0 rfl (by decide) hv32 ?_
              refine en_segs [(111, .aload_n 0, [])] (by decide +kernel) (y := (112, [some (.ref a0), some (.int x1), some (.int x2), some (.int x3), some (.int x4), some (.int x5)], [.ref a0, .int v32], h)) rfl ?_
              refine en_get (by decide +kernel : u_at kl_285 112 = some (.getfield 89, [12, 40])) hW ha0 (by decide) rfl ?_
              refine en_segs [(115, .iload 4, [])] (by decide +kernel) (y := (117, [some (.ref a0), some (.int x1), some (.int x2), some (.int x3), some (.int x4), some (.int x5)], [.int x4, .ref (aP d 12 40 a0), .int v32], h)) rfl ?_
              obtain ⟨v33, hv33, hF⟩ := ob_some hF
              refine en_iald (by decide +kernel : u_at kl_285 117 = some (.iaload, [])) hW ha0 rfl (by decide) hv33 ?_
              refine en_ic_ne (by decide +kernel : u_at kl_285 118 = some (.if_icmp .ne 34, [152])) (fun b34 => ?_) (fun b34 => ?_)
              · replace hF := i_pos b34 hF
                refine en_segs [(121, .aload_n 0, [])] (by decide +kernel) (y := (122, [some (.ref a0), some (.int x1), some (.int x2), some (.int x3), some (.int x4), some (.int x5)], [.ref a0], h)) rfl ?_
                refine en_get (by decide +kernel : u_at kl_285 122 = some (.getfield 89, [12, 40])) hW ha0 (by decide) rfl ?_
                refine en_segs [(125, .iload 5, [])] (by decide +kernel) (y := (127, [some (.ref a0), some (.int x1), some (.int x2), some (.int x3), some (.int x4), some (.int x5)], [.int x5, .ref (aP d 12 40 a0)], h)) rfl ?_
                obtain ⟨v35, hv35, hF⟩ := ob_some hF
                refine en_iald (by decide +kernel : u_at kl_285 127 = some (.iaload, [])) hW ha0 rfl (by decide) hv35 ?_
                refine en_if_le (by decide +kernel : u_at kl_285 128 = some (.ifCond .le 24, [152])) (fun b36 => ?_) (fun b36 => ?_)
                · replace hF := i_pos b36 hF
                  obtain rfl := Option.some.inj hF
                  exact j23 _ hW
                · replace hF := i_neg b36 hF
                  refine en_segs [(131, .aload_n 0, [])] (by decide +kernel) (y := (132, [some (.ref a0), some (.int x1), some (.int x2), some (.int x3), some (.int x4), some (.int x5)], [.ref a0], h)) rfl ?_
                  refine en_get (by decide +kernel : u_at kl_285 132 = some (.getfield 92, [12, 41])) hW ha0 (by decide) rfl ?_
                  refine en_segs [(135, .iload 5, [])] (by decide +kernel) (y := (137, [some (.ref a0), some (.int x1), some (.int x2), some (.int x3), some (.int x4), some (.int x5)], [.int x5, .ref (aP d 12 41 a0)], h)) rfl ?_
                  obtain ⟨v37, hv37, hF⟩ := ob_some hF
                  refine en_iald (by decide +kernel : u_at kl_285 137 = some (.iaload, [])) hW ha0 rfl (by decide) hv37 ?_
                  refine en_segs [(138, .aload_n 0, [])] (by decide +kernel) (y := (139, [some (.ref a0), some (.int x1), some (.int x2), some (.int x3), some (.int x4), some (.int x5)], [.ref a0, .int v37], h)) rfl ?_
                  refine en_get (by decide +kernel : u_at kl_285 139 = some (.getfield 92, [12, 41])) hW ha0 (by decide) rfl ?_
                  refine en_segs [(142, .iload 4, [])] (by decide +kernel) (y := (144, [some (.ref a0), some (.int x1), some (.int x2), some (.int x3), some (.int x4), some (.int x5)], [.int x4, .ref (aP d 12 41 a0), .int v37], h)) rfl ?_
                  obtain ⟨v38, hv38, hF⟩ := ob_some hF
                  refine en_iald (by decide +kernel : u_at kl_285 144 = some (.iaload, [])) hW ha0 rfl (by decide) hv38 ?_
                  refine en_ic_ge (by decide +kernel : u_at kl_285 145 = some (.if_icmp .ge 7, [152])) (fun b39 => ?_) (fun b39 => ?_)
                  · replace hF := i_pos b39 hF
                    obtain rfl := Option.some.inj hF
                    exact j23 _ hW
                  · replace hF := i_neg b39 hF
                    refine en_segs [(148, .iload 5, []), (150, .istore 4, [])] (by decide +kernel) (y := (152, [some (.ref a0), some (.int x1), some (.int x2), some (.int x3), some (.int x5), some (.int x5)], [], h)) rfl ?_
                    obtain rfl := Option.some.inj hF
                    exact j23 _ hW
              · replace hF := i_neg b34 hF
                obtain rfl := Option.some.inj hF
                exact j23 _ hW
        · replace hF := i_neg b27 hF
          refine en_segs [(79, .goto 73, [152])] (by decide +kernel) (y := (152, [some (.ref a0), some (.int x1), some (.int x2), some (.int x3), some (.int x4), some (.int x5)], [], h)) rfl ?_
          obtain rfl := Option.some.inj hF
          exact j23 _ hW
      · replace hF := i_neg b24 hF
        refine en_segs [(61, .goto 91, [152])] (by decide +kernel) (y := (152, [some (.ref a0), some (.int x1), some (.int x2), some (.int x3), some (.int x4), some (.int x5)], [], h)) rfl ?_
        obtain rfl := Option.some.inj hF
        exact j23 _ hW
def F_285 (c12 : Cl) (a0 : Nat) (p1 : Int32) (p2 : Int32) (p3 : Int32) : Option (Int32 × Cl) :=
  F_219 c12 a0 p1 >>= fun r1 =>
  if r1 = 0 then
  some ((-1), c12)
  else
  F_170 ((p2 : Int32).toInt64) 0 99 >>= fun r3 =>
  if r3 = 0 then
  some ((-1), c12)
  else
  F_170 ((p3 : Int32).toInt64) 0 2 >>= fun r5 =>
  if r5 = 0 then
  some ((-1), c12)
  else
  F_284 c12 a0 >>= fun r7 =>
  G_285 a0 0 [p1, p2, p3, (-1), 0] [] [] r7
set_option maxRecDepth 100000 in
set_option maxHeartbeats 4000000 in
/-- HeadCountsModel.gather -/
theorem e_285 {D : Nat} {c0 c1 c2 c3 c4 c5 c6 c7 c8 c9 c10 c11 c12 c13 : Cl} {d : Ad} {h : UH} {a0 : Nat} {p1 : Int32} {p2 : Int32} {p3 : Int32} {r : (Int32 × Cl)} (hD : 6 ≤ D) (hW : HW (mkw c0 c1 c2 c3 c4 c5 c6 c7 c8 c9 c10 c11 c12 c13) d h) (ha0 : aK d a0 = (0, 12, 0)) (hF : F_285 c12 a0 p1 p2 p3 = some r) : ∃ q, EX D 285 [.ref a0, .int p1, .int p2, .int p3] h q ∧ q.1 = some (.int r.1) ∧ HW (mkw c0 c1 c2 c3 c4 c5 c6 c7 c8 c9 c10 c11 r.2 c13) d q.2 := by
  obtain ⟨D, rfl⟩ : ∃ E, D = E + 1 := ⟨D - 1, by omega⟩
  unfold F_285 at hF
  refine ex_in (kl := kl_285) (nL := 6) rfl (by decide +kernel) (Nat.le_of_ble_eq_true rfl) ?_
  obtain ⟨QQ, hQQ⟩ : ∃ QQ : UR → Prop, QQ = (fun q : UR => q.1 = some (.int r.1) ∧ HW (mkw c0 c1 c2 c3 c4 c5 c6 c7 c8 c9 c10 c11 r.2 c13) d q.2) := ⟨_, rfl⟩
  rw [← hQQ]
  have hQ : ∀ h' : UH, HW (mkw c0 c1 c2 c3 c4 c5 c6 c7 c8 c9 c10 c11 r.2 c13) d h' → QQ (some (.int r.1), h') := fun h' p => by rw [hQQ]; exact ⟨rfl, p⟩
  clear hQQ
  show Ends (EX D) (u_at kl_285) (0, [some (.ref a0), some (.int p1), some (.int p2), some (.int p3), none, none], [], h) QQ
  refine en_segs [(0, .aload_n 0, []), (1, .iload_n 1, [])] (by decide +kernel) (y := (2, [some (.ref a0), some (.int p1), some (.int p2), some (.int p3), none, none], [.int p1, .ref a0], h)) rfl ?_
  obtain ⟨r1, hr1, hF⟩ := ob_some hF
  refine en_vi (r := []) (by decide +kernel : u_at kl_285 2 = some (.invokevirtual 372, [219, 1, 12])) hW ha0 rfl rfl (Nat.le_of_ble_eq_true rfl) (e_219 (D := D) (by omega) hW ha0 hr1) (fun h' q => ?_)
  subst q
  refine en_if_eq (by decide +kernel : u_at kl_285 5 = some (.ifCond .eq 27, [32])) (fun b2 => ?_) (fun b2 => ?_)
  · replace hF := i_pos b2 hF
    refine en_segs [(32, .iconst (-1), [])] (by decide +kernel) (y := (33, [some (.ref a0), some (.int p1), some (.int p2), some (.int p3), none, none], [.int (-1)], h)) rfl ?_
    obtain rfl := Option.some.inj hF
    exact en_ret (by decide +kernel : u_at kl_285 33 = some (.ireturn, [0])) rfl (hQ _ hW)
  · replace hF := i_neg b2 hF
    refine en_segs [(8, .iload_n 2, []), (9, .i2l, []), (10, .lconst 0, []), (11, .ldc2_w 412, [99])] (by decide +kernel) (y := (14, [some (.ref a0), some (.int p1), some (.int p2), some (.int p3), none, none], [.long 99, .long 0, .long ((p2 : Int32).toInt64)], h)) rfl ?_
    obtain ⟨r3, hr3, hF⟩ := ob_some hF
    refine en_si (r := []) (by decide +kernel : u_at kl_285 14 = some (.invokestatic 161, [170, 3])) rfl rfl (Nat.le_of_ble_eq_true rfl) (e_170 (D := D) (by omega) hW hr3) (fun h' q => ?_)
    subst q
    refine en_if_eq (by decide +kernel : u_at kl_285 17 = some (.ifCond .eq 15, [32])) (fun b4 => ?_) (fun b4 => ?_)
    · replace hF := i_pos b4 hF
      refine en_segs [(32, .iconst (-1), [])] (by decide +kernel) (y := (33, [some (.ref a0), some (.int p1), some (.int p2), some (.int p3), none, none], [.int (-1)], h)) rfl ?_
      obtain rfl := Option.some.inj hF
      exact en_ret (by decide +kernel : u_at kl_285 33 = some (.ireturn, [0])) rfl (hQ _ hW)
    · replace hF := i_neg b4 hF
      refine en_segs [(20, .iload_n 3, []), (21, .i2l, []), (22, .lconst 0, []), (23, .ldc2_w 384, [2])] (by decide +kernel) (y := (26, [some (.ref a0), some (.int p1), some (.int p2), some (.int p3), none, none], [.long 2, .long 0, .long ((p3 : Int32).toInt64)], h)) rfl ?_
      obtain ⟨r5, hr5, hF⟩ := ob_some hF
      refine en_si (r := []) (by decide +kernel : u_at kl_285 26 = some (.invokestatic 161, [170, 3])) rfl rfl (Nat.le_of_ble_eq_true rfl) (e_170 (D := D) (by omega) hW hr5) (fun h' q => ?_)
      subst q
      refine en_if_ne (by decide +kernel : u_at kl_285 29 = some (.ifCond .ne 5, [34])) (fun b6 => ?_) (fun b6 => ?_)
      · replace hF := i_pos b6 hF
        refine en_segs [(32, .iconst (-1), [])] (by decide +kernel) (y := (33, [some (.ref a0), some (.int p1), some (.int p2), some (.int p3), none, none], [.int (-1)], h)) rfl ?_
        obtain rfl := Option.some.inj hF
        exact en_ret (by decide +kernel : u_at kl_285 33 = some (.ireturn, [0])) rfl (hQ _ hW)
      · replace hF := i_neg b6 hF
        refine en_segs [(34, .aload_n 0, [])] (by decide +kernel) (y := (35, [some (.ref a0), some (.int p1), some (.int p2), some (.int p3), none, none], [.ref a0], h)) rfl ?_
        obtain ⟨r7, hr7, hF⟩ := ob_some hF
        refine en_vv (r := []) (by decide +kernel : u_at kl_285 35 = some (.invokevirtual 511, [284, 0, 12])) hW ha0 rfl rfl (Nat.le_of_ble_eq_true rfl) (e_284 (D := D) (by omega) hW ha0 hr7) (fun h hW => ?_)
        have hW : HW (mkw c0 c1 c2 c3 c4 c5 c6 c7 c8 c9 c10 c11 r7 c13) d h := hW
        refine en_segs [(38, .iconst (-1), []), (39, .istore 4, []), (41, .iconst 0, []), (42, .istore 5, [])] (by decide +kernel) (y := (44, [some (.ref a0), some (.int p1), some (.int p2), some (.int p3), some (.int (-1)), some (.int 0)], [], h)) rfl ?_
        exact (g_285 (D := D) hD ha0 _ _ _ _ _ _ hF) _ _ _ _ _ rfl rfl rfl rfl  _ hW _ hQ
def G_286 (c12 : Cl) (a0 : Nat) (lab : Nat) (xs : List Int32) (ys : List Int64) (zs : List Nat) : Option Int32 := match lab, xs, ys, zs with
  | 0, [x1, x2, x3], [], [] =>
    ald (cA c12 20 a0) 221 3 >>= fun v1 =>
    if v1 ≤ x3 then
    some x2
    else
    ald (cA c12 20 a0) 221 (88 + x3) >>= fun v3 =>
    F_171 v3 x1 >>= fun r4 =>
    ((if r4 = 0 then
    some 0
    else
    some (1 <<< (x3 &&& 31))) : Option (Int32)) >>= fun (t5 : Int32) =>
    G_286 c12 a0 0 [x1, x2 ||| t5, x3 + 1] [] []
  | _, _, _, _ => none
partial_fixpoint
set_option maxRecDepth 100000 in
set_option maxHeartbeats 4000000 in
theorem g_286 {D : Nat} (hD : 2 ≤ D + 1) {c0 c1 c2 c3 c4 c5 c6 c7 c8 c9 c10 c11 c12 c13 : Cl} {d : Ad} {a0 : Nat} (ha0 : aK d a0 = (0, 12, 0)) : ∀ (lab : Nat) (xs : List Int32) (ys : List Int64) (zs : List Nat) (r : Int32), G_286 c12 a0 lab xs ys zs = some r →
    (∀ (x1 : Int32) (x2 : Int32) (x3 : Int32), lab = 0 → xs = [x1, x2, x3] → ys = [] → zs = [] → ∀ h : UH, HW (mkw c0 c1 c2 c3 c4 c5 c6 c7 c8 c9 c10 c11 c12 c13) d h → ∀ QQ : UR → Prop, QQ (some (.int r), h) → Ends (EX D) (u_at kl_286) (4, [some (.ref a0), some (.int x1), some (.int x2), some (.int x3)], [], h) QQ) := by
  refine G_286.partial_correctness _ _ (motive := fun lab xs ys zs r =>
    (∀ (x1 : Int32) (x2 : Int32) (x3 : Int32), lab = 0 → xs = [x1, x2, x3] → ys = [] → zs = [] → ∀ h : UH, HW (mkw c0 c1 c2 c3 c4 c5 c6 c7 c8 c9 c10 c11 c12 c13) d h → ∀ QQ : UR → Prop, QQ (some (.int r), h) → Ends (EX D) (u_at kl_286) (4, [some (.ref a0), some (.int x1), some (.int x2), some (.int x3)], [], h) QQ)) ?_
  intro G ih lab xs ys zs r hF
  · intro x1 x2 x3 e1 e2 e3 e4 h hW QQ hQ
    subst e1 e2 e3 e4
    refine en_segs [(4, .iload_n 3, []), (5, .aload_n 0, [])] (by decide +kernel) (y := (6, [some (.ref a0), some (.int x1), some (.int x2), some (.int x3)], [.ref a0, .int x3], h)) rfl ?_
    refine en_get (by decide +kernel : u_at kl_286 6 = some (.getfield 39, [12, 20])) hW ha0 (by decide) rfl ?_
    refine en_segs [(9, .iconst 3, [])] (by decide +kernel) (y := (10, [some (.ref a0), some (.int x1), some (.int x2), some (.int x3)], [.int 3, .ref (aP d 12 20 a0), .int x3], h)) rfl ?_
    obtain ⟨v1, hv1, hF⟩ := ob_some hF
    refine en_iald (by decide +kernel : u_at kl_286 10 = some (.iaload, [])) hW ha0 rfl (by decide) hv1 ?_
    refine en_ic_ge (by decide +kernel : u_at kl_286 11 = some (.if_icmp .ge 35, [46])) (fun b2 => ?_) (fun b2 => ?_)
    · replace hF := i_pos b2 hF
      refine en_segs [(46, .iload_n 2, [])] (by decide +kernel) (y := (47, [some (.ref a0), some (.int x1), some (.int x2), some (.int x3)], [.int x2], h)) rfl ?_
      obtain rfl := Option.some.inj hF
      exact en_ret (by decide +kernel : u_at kl_286 47 = some (.ireturn, [0])) rfl (hQ)
    · replace hF := i_neg b2 hF
      refine en_segs [(14, .iload_n 2, []), (15, .aload_n 0, [])] (by decide +kernel) (y := (16, [some (.ref a0), some (.int x1), some (.int x2), some (.int x3)], [.ref a0, .int x2], h)) rfl ?_
      refine en_get (by decide +kernel : u_at kl_286 16 = some (.getfield 39, [12, 20])) hW ha0 (by decide) rfl ?_
      refine en_segs [(19, .bipush 88, []), (21, .iload_n 3, []), (22, .iadd, [])] (by decide +kernel) (y := (23, [some (.ref a0), some (.int x1), some (.int x2), some (.int x3)], [.int (88 + x3), .ref (aP d 12 20 a0), .int x2], h)) rfl ?_
      obtain ⟨v3, hv3, hF⟩ := ob_some hF
      refine en_iald (by decide +kernel : u_at kl_286 23 = some (.iaload, [])) hW ha0 rfl (by decide) hv3 ?_
      refine en_segs [(24, .iload_n 1, [])] (by decide +kernel) (y := (25, [some (.ref a0), some (.int x1), some (.int x2), some (.int x3)], [.int x1, .int v3, .int x2], h)) rfl ?_
      obtain ⟨r4, hr4, hF⟩ := ob_some hF
      refine en_si (r := [.int x2]) (by decide +kernel : u_at kl_286 25 = some (.invokestatic 361, [171, 2])) rfl rfl (Nat.le_of_ble_eq_true rfl) (e_171 (D := D) (by omega) hW hr4) (fun h' q => ?_)
      subst q
      obtain ⟨t5, hX, hK⟩ := ob_some hF
      have j6 : Ends (EX D) (u_at kl_286) (38, [some (.ref a0), some (.int x1), some (.int x2), some (.int x3)], [.int t5, .int x2], h) QQ := by
        have hF := hK
        refine en_segs [(38, .ior, []), (39, .istore_n 2, []), (40, .iinc 3 1, []), (43, .goto (-39), [4])] (by decide +kernel) (y := (4, [some (.ref a0), some (.int x1), some (.int (x2 ||| t5)), some (.int (x3 + 1))], [], h)) rfl ?_
        exact (ih _ _ _ _ _ hF) _ _ _ rfl rfl rfl rfl  _ hW _ hQ
      have hF := hX
      refine en_if_eq (by decide +kernel : u_at kl_286 28 = some (.ifCond .eq 9, [37])) (fun b7 => ?_) (fun b7 => ?_)
      · replace hF := i_pos b7 hF
        refine en_segs [(37, .iconst 0, [])] (by decide +kernel) (y := (38, [some (.ref a0), some (.int x1), some (.int x2), some (.int x3)], [.int 0, .int x2], h)) rfl ?_
        obtain rfl := Option.some.inj hF
        exact j6
      · replace hF := i_neg b7 hF
        refine en_segs [(31, .iconst 1, []), (32, .iload_n 3, []), (33, .ishl, []), (34, .goto 4, [38])] (by decide +kernel) (y := (38, [some (.ref a0), some (.int x1), some (.int x2), some (.int x3)], [.int (1 <<< (x3 &&& 31)), .int x2], h)) rfl ?_
        obtain rfl := Option.some.inj hF
        exact j6
def F_286 (c12 : Cl) (a0 : Nat) (p1 : Int32) : Option Int32 :=
  G_286 c12 a0 0 [p1, 0, 0] [] []
set_option maxRecDepth 100000 in
set_option maxHeartbeats 4000000 in
/-- HeadCountsModel.sensesOf -/
theorem e_286 {D : Nat} {c0 c1 c2 c3 c4 c5 c6 c7 c8 c9 c10 c11 c12 c13 : Cl} {d : Ad} {h : UH} {a0 : Nat} {p1 : Int32} {r : Int32} (hD : 2 ≤ D) (hW : HW (mkw c0 c1 c2 c3 c4 c5 c6 c7 c8 c9 c10 c11 c12 c13) d h) (ha0 : aK d a0 = (0, 12, 0)) (hF : F_286 c12 a0 p1 = some r) : ∃ q, EX D 286 [.ref a0, .int p1] h q ∧ q.1 = some (.int r) ∧ h = q.2 := by
  obtain ⟨D, rfl⟩ : ∃ E, D = E + 1 := ⟨D - 1, by omega⟩
  unfold F_286 at hF
  refine ex_in (kl := kl_286) (nL := 4) rfl (by decide +kernel) (Nat.le_of_ble_eq_true rfl) ?_
  obtain ⟨QQ, hQQ⟩ : ∃ QQ : UR → Prop, QQ = (fun q : UR => q.1 = some (.int r) ∧ h = q.2) := ⟨_, rfl⟩
  rw [← hQQ]
  have hQ : QQ (some (.int r), h) := by rw [hQQ]; exact ⟨rfl, rfl⟩
  clear hQQ
  show Ends (EX D) (u_at kl_286) (0, [some (.ref a0), some (.int p1), none, none], [], h) QQ
  refine en_segs [(0, .iconst 0, []), (1, .istore_n 2, []), (2, .iconst 0, []), (3, .istore_n 3, [])] (by decide +kernel) (y := (4, [some (.ref a0), some (.int p1), some (.int 0), some (.int 0)], [], h)) rfl ?_
  exact (g_286 (D := D) hD ha0 _ _ _ _ _ hF) _ _ _ rfl rfl rfl rfl  _ hW _ hQ
def G_288 (c12 : Cl) (a0 : Nat) (lab : Nat) (xs : List Int32) (ys : List Int64) (zs : List Nat) : Option Int32 := match lab, xs, ys, zs with
  | 0, [x1, x2, x3, x4], [], [] =>
    ald (cA c12 20 a0) 221 2 >>= fun v2 =>
    if v2 ≤ x4 then
    ald (cA c12 20 a0) 221 (82 + x2) >>= fun v4 =>
    ((if v4 < x3 then
    some 0
    else
    some 1) : Option (Int32)) >>= fun (t5 : Int32) =>
    zb t5 >>= fun z7 => some z7
    else
    ((if x4 = x1 then
    some 0
    else
    F_224 c12 a0 x4 >>= fun r12 =>
    if r12 = 0 then
    some 0
    else
    F_223 c12 a0 x4 0 >>= fun r14 =>
    if r14 = x2 then
    F_223 c12 a0 x4 1 >>= fun r16 =>
    some r16
    else
    some 0) : Option (Int32)) >>= fun (t9 : Int32) =>
    G_288 c12 a0 0 [x1, x2, x3 + t9, x4 + 1] [] []
  | _, _, _, _ => none
partial_fixpoint
set_option maxRecDepth 100000 in
set_option maxHeartbeats 4000000 in
theorem g_288 {D : Nat} (hD : 3 ≤ D + 1) {c0 c1 c2 c3 c4 c5 c6 c7 c8 c9 c10 c11 c12 c13 : Cl} {d : Ad} {a0 : Nat} (ha0 : aK d a0 = (0, 12, 0)) : ∀ (lab : Nat) (xs : List Int32) (ys : List Int64) (zs : List Nat) (r : Int32), G_288 c12 a0 lab xs ys zs = some r →
    (∀ (x1 : Int32) (x2 : Int32) (x3 : Int32) (x4 : Int32), lab = 0 → xs = [x1, x2, x3, x4] → ys = [] → zs = [] → ∀ h : UH, HW (mkw c0 c1 c2 c3 c4 c5 c6 c7 c8 c9 c10 c11 c12 c13) d h → ∀ QQ : UR → Prop, QQ (some (.int r), h) → Ends (EX D) (u_at kl_288) (10, [some (.ref a0), some (.int x1), some (.int x2), some (.int x3), some (.int x4)], [], h) QQ) := by
  refine G_288.partial_correctness _ _ (motive := fun lab xs ys zs r =>
    (∀ (x1 : Int32) (x2 : Int32) (x3 : Int32) (x4 : Int32), lab = 0 → xs = [x1, x2, x3, x4] → ys = [] → zs = [] → ∀ h : UH, HW (mkw c0 c1 c2 c3 c4 c5 c6 c7 c8 c9 c10 c11 c12 c13) d h → ∀ QQ : UR → Prop, QQ (some (.int r), h) → Ends (EX D) (u_at kl_288) (10, [some (.ref a0), some (.int x1), some (.int x2), some (.int x3), some (.int x4)], [], h) QQ)) ?_
  intro G ih lab xs ys zs r hF
  · intro x1 x2 x3 x4 e1 e2 e3 e4 h hW QQ hQ
    subst e1 e2 e3 e4
    refine en_segs [(10, .iload 4, []), (12, .aload_n 0, [])] (by decide +kernel) (y := (13, [some (.ref a0), some (.int x1), some (.int x2), some (.int x3), some (.int x4)], [.ref a0, .int x4], h)) rfl ?_
    refine en_get (by decide +kernel : u_at kl_288 13 = some (.getfield 39, [12, 20])) hW ha0 (by decide) rfl ?_
    refine en_segs [(16, .iconst 2, [])] (by decide +kernel) (y := (17, [some (.ref a0), some (.int x1), some (.int x2), some (.int x3), some (.int x4)], [.int 2, .ref (aP d 12 20 a0), .int x4], h)) rfl ?_
    obtain ⟨v2, hv2, hF⟩ := ob_some hF
    refine en_iald (by decide +kernel : u_at kl_288 17 = some (.iaload, [])) hW ha0 rfl (by decide) hv2 ?_
    refine en_ic_ge (by decide +kernel : u_at kl_288 18 = some (.if_icmp .ge 49, [67])) (fun b3 => ?_) (fun b3 => ?_)
    · replace hF := i_pos b3 hF
      refine en_segs [(67, .iload_n 3, []), (68, .aload_n 0, [])] (by decide +kernel) (y := (69, [some (.ref a0), some (.int x1), some (.int x2), some (.int x3), some (.int x4)], [.ref a0, .int x3], h)) rfl ?_
      refine en_get (by decide +kernel : u_at kl_288 69 = some (.getfield 39, [12, 20])) hW ha0 (by decide) rfl ?_
      refine en_segs [(72, .bipush 82, []), (74, .iload_n 2, []), (75, .iadd, [])] (by decide +kernel) (y := (76, [some (.ref a0), some (.int x1), some (.int x2), some (.int x3), some (.int x4)], [.int (82 + x2), .ref (aP d 12 20 a0), .int x3], h)) rfl ?_
      obtain ⟨v4, hv4, hF⟩ := ob_some hF
      refine en_iald (by decide +kernel : u_at kl_288 76 = some (.iaload, [])) hW ha0 rfl (by decide) hv4 ?_
      obtain ⟨t5, hX, hK⟩ := ob_some hF
      have j6 : Ends (EX D) (u_at kl_288) (85, [some (.ref a0), some (.int x1), some (.int x2), some (.int x3), some (.int x4)], [.int t5], h) QQ := by
        have hF := hK
        obtain ⟨z7, hz7, hF⟩ := ob_some hF
        obtain rfl := Option.some.inj hF
        exact en_retZ (by decide +kernel : u_at kl_288 85 = some (.ireturn, [1])) hz7 (hQ)
      have hF := hX
      refine en_ic_gt (by decide +kernel : u_at kl_288 77 = some (.if_icmp .gt 7, [84])) (fun b8 => ?_) (fun b8 => ?_)
      · replace hF := i_pos b8 hF
        refine en_segs [(84, .iconst 0, [])] (by decide +kernel) (y := (85, [some (.ref a0), some (.int x1), some (.int x2), some (.int x3), some (.int x4)], [.int 0], h)) rfl ?_
        obtain rfl := Option.some.inj hF
        exact j6
      · replace hF := i_neg b8 hF
        refine en_segs [(80, .iconst 1, []), (81, .goto 4, [85])] (by decide +kernel) (y := (85, [some (.ref a0), some (.int x1), some (.int x2), some (.int x3), some (.int x4)], [.int 1], h)) rfl ?_
        obtain rfl := Option.some.inj hF
        exact j6
    · replace hF := i_neg b3 hF
      refine en_segs [(21, .iload_n 3, []), (22, .iload 4, []), (24, .iload_n 1, [])] (by decide +kernel) (y := (25, [some (.ref a0), some (.int x1), some (.int x2), some (.int x3), some (.int x4)], [.int x1, .int x4, .int x3], h)) rfl ?_
      obtain ⟨t9, hX, hK⟩ := ob_some hF
      have j10 : Ends (EX D) (u_at kl_288) (59, [some (.ref a0), some (.int x1), some (.int x2), some (.int x3), some (.int x4)], [.int t9, .int x3], h) QQ := by
        have hF := hK
        refine en_segs [(59, .iadd, []), (60, .istore_n 3, []), (61, .iinc 4 1, []), (64, .goto (-54), [10])] (by decide +kernel) (y := (10, [some (.ref a0), some (.int x1), some (.int x2), some (.int (x3 + t9)), some (.int (x4 + 1))], [], h)) rfl ?_
        exact (ih _ _ _ _ _ hF) _ _ _ _ rfl rfl rfl rfl  _ hW _ hQ
      have hF := hX
      refine en_ic_eq (by decide +kernel : u_at kl_288 25 = some (.if_icmp .eq 33, [58])) (fun b11 => ?_) (fun b11 => ?_)
      · replace hF := i_pos b11 hF
        refine en_segs [(58, .iconst 0, [])] (by decide +kernel) (y := (59, [some (.ref a0), some (.int x1), some (.int x2), some (.int x3), some (.int x4)], [.int 0, .int x3], h)) rfl ?_
        obtain rfl := Option.some.inj hF
        exact j10
      · replace hF := i_neg b11 hF
        refine en_segs [(28, .aload_n 0, []), (29, .iload 4, [])] (by decide +kernel) (y := (31, [some (.ref a0), some (.int x1), some (.int x2), some (.int x3), some (.int x4)], [.int x4, .ref a0, .int x3], h)) rfl ?_
        obtain ⟨r12, hr12, hF⟩ := ob_some hF
        refine en_vi (r := [.int x3]) (by decide +kernel : u_at kl_288 31 = some (.invokevirtual 346, [224, 1, 12])) hW ha0 rfl rfl (Nat.le_of_ble_eq_true rfl) (e_224 (D := D) (by omega) hW ha0 hr12) (fun h' q => ?_)
        subst q
        refine en_if_eq (by decide +kernel : u_at kl_288 34 = some (.ifCond .eq 24, [58])) (fun b13 => ?_) (fun b13 => ?_)
        · replace hF := i_pos b13 hF
          refine en_segs [(58, .iconst 0, [])] (by decide +kernel) (y := (59, [some (.ref a0), some (.int x1), some (.int x2), some (.int x3), some (.int x4)], [.int 0, .int x3], h)) rfl ?_
          obtain rfl := Option.some.inj hF
          exact j10
        · replace hF := i_neg b13 hF
          refine en_segs [(37, .aload_n 0, []), (38, .iload 4, []), (40, .iconst 0, [])] (by decide +kernel) (y := (41, [some (.ref a0), some (.int x1), some (.int x2), some (.int x3), some (.int x4)], [.int 0, .int x4, .ref a0, .int x3], h)) rfl ?_
          obtain ⟨r14, hr14, hF⟩ := ob_some hF
          refine en_vi (r := [.int x3]) (by decide +kernel : u_at kl_288 41 = some (.invokevirtual 343, [223, 2, 12])) hW ha0 rfl rfl (Nat.le_of_ble_eq_true rfl) (e_223 (D := D) (by omega) hW ha0 hr14) (fun h' q => ?_)
          subst q
          refine en_segs [(44, .iload_n 2, [])] (by decide +kernel) (y := (45, [some (.ref a0), some (.int x1), some (.int x2), some (.int x3), some (.int x4)], [.int x2, .int r14, .int x3], h)) rfl ?_
          refine en_ic_ne (by decide +kernel : u_at kl_288 45 = some (.if_icmp .ne 13, [58])) (fun b15 => ?_) (fun b15 => ?_)
          · replace hF := i_pos b15 hF
            refine en_segs [(48, .aload_n 0, []), (49, .iload 4, []), (51, .iconst 1, [])] (by decide +kernel) (y := (52, [some (.ref a0), some (.int x1), some (.int x2), some (.int x3), some (.int x4)], [.int 1, .int x4, .ref a0, .int x3], h)) rfl ?_
            obtain ⟨r16, hr16, hF⟩ := ob_some hF
            refine en_vi (r := [.int x3]) (by decide +kernel : u_at kl_288 52 = some (.invokevirtual 343, [223, 2, 12])) hW ha0 rfl rfl (Nat.le_of_ble_eq_true rfl) (e_223 (D := D) (by omega) hW ha0 hr16) (fun h' q => ?_)
            subst q
            refine en_segs [(55, .goto 4, [59])] (by decide +kernel) (y := (59, [some (.ref a0), some (.int x1), some (.int x2), some (.int x3), some (.int x4)], [.int r16, .int x3], h)) rfl ?_
            obtain rfl := Option.some.inj hF
            exact j10
          · replace hF := i_neg b15 hF
            refine en_segs [(58, .iconst 0, [])] (by decide +kernel) (y := (59, [some (.ref a0), some (.int x1), some (.int x2), some (.int x3), some (.int x4)], [.int 0, .int x3], h)) rfl ?_
            obtain rfl := Option.some.inj hF
            exact j10
def F_288 (c12 : Cl) (a0 : Nat) (p1 : Int32) (p2 : Int32) : Option Int32 :=
  F_223 c12 a0 p1 1 >>= fun r1 =>
  G_288 c12 a0 0 [p1, p2, r1, 0] [] []
set_option maxRecDepth 100000 in
set_option maxHeartbeats 4000000 in
/-- HeadCountsModel.holdsWith -/
theorem e_288 {D : Nat} {c0 c1 c2 c3 c4 c5 c6 c7 c8 c9 c10 c11 c12 c13 : Cl} {d : Ad} {h : UH} {a0 : Nat} {p1 : Int32} {p2 : Int32} {r : Int32} (hD : 3 ≤ D) (hW : HW (mkw c0 c1 c2 c3 c4 c5 c6 c7 c8 c9 c10 c11 c12 c13) d h) (ha0 : aK d a0 = (0, 12, 0)) (hF : F_288 c12 a0 p1 p2 = some r) : ∃ q, EX D 288 [.ref a0, .int p1, .int p2] h q ∧ q.1 = some (.int r) ∧ h = q.2 := by
  obtain ⟨D, rfl⟩ : ∃ E, D = E + 1 := ⟨D - 1, by omega⟩
  unfold F_288 at hF
  refine ex_in (kl := kl_288) (nL := 5) rfl (by decide +kernel) (Nat.le_of_ble_eq_true rfl) ?_
  obtain ⟨QQ, hQQ⟩ : ∃ QQ : UR → Prop, QQ = (fun q : UR => q.1 = some (.int r) ∧ h = q.2) := ⟨_, rfl⟩
  rw [← hQQ]
  have hQ : QQ (some (.int r), h) := by rw [hQQ]; exact ⟨rfl, rfl⟩
  clear hQQ
  show Ends (EX D) (u_at kl_288) (0, [some (.ref a0), some (.int p1), some (.int p2), none, none], [], h) QQ
  refine en_segs [(0, .aload_n 0, []), (1, .iload_n 1, []), (2, .iconst 1, [])] (by decide +kernel) (y := (3, [some (.ref a0), some (.int p1), some (.int p2), none, none], [.int 1, .int p1, .ref a0], h)) rfl ?_
  obtain ⟨r1, hr1, hF⟩ := ob_some hF
  refine en_vi (r := []) (by decide +kernel : u_at kl_288 3 = some (.invokevirtual 343, [223, 2, 12])) hW ha0 rfl rfl (Nat.le_of_ble_eq_true rfl) (e_223 (D := D) (by omega) hW ha0 hr1) (fun h' q => ?_)
  subst q
  refine en_segs [(6, .istore_n 3, []), (7, .iconst 0, []), (8, .istore 4, [])] (by decide +kernel) (y := (10, [some (.ref a0), some (.int p1), some (.int p2), some (.int r1), some (.int 0)], [], h)) rfl ?_
  exact (g_288 (D := D) hD ha0 _ _ _ _ _ hF) _ _ _ _ rfl rfl rfl rfl  _ hW _ hQ
def G_287 (c12 : Cl) (a0 : Nat) (lab : Nat) (xs : List Int32) (ys : List Int64) (zs : List Nat) : Option Int32 := match lab, xs, ys, zs with
  | 0, [x1, x2, x3, x4], [], [] =>
    ald (cA c12 20 a0) 221 0 >>= fun v1 =>
    if v1 ≤ x4 then
    some x3
    else
    F_171 x2 x4 >>= fun r3 =>
    if r3 = 0 then
    G_287 c12 a0 0 [x1, x2, x3, x4 + 1] [] []
    else
    G_287 c12 a0 1 [x1, x2, x3, x4, 0] [] []
  | 1, [x1, x2, x3, x4, x5], [], [] =>
    ald (cA c12 20 a0) 221 0 >>= fun v5 =>
    if v5 ≤ x5 then
    G_287 c12 a0 0 [x1, x2, x3, x4 + 1] [] []
    else
    F_232 c12 a0 x4 >>= fun r7 =>
    F_171 r7 x5 >>= fun r8 =>
    ((if r8 = 0 then
    some 0
    else
    F_288 c12 a0 x1 x5 >>= fun r12 =>
    if r12 = 0 then
    some 0
    else
    some (1 <<< (x5 &&& 31))) : Option (Int32)) >>= fun (t9 : Int32) =>
    G_287 c12 a0 1 [x1, x2, x3 ||| t9, x4, x5 + 1] [] []
  | _, _, _, _ => none
partial_fixpoint
set_option maxRecDepth 100000 in
set_option maxHeartbeats 4000000 in
theorem g_287 {D : Nat} (hD : 4 ≤ D + 1) {c0 c1 c2 c3 c4 c5 c6 c7 c8 c9 c10 c11 c12 c13 : Cl} {d : Ad} {a0 : Nat} (ha0 : aK d a0 = (0, 12, 0)) : ∀ (lab : Nat) (xs : List Int32) (ys : List Int64) (zs : List Nat) (r : Int32), G_287 c12 a0 lab xs ys zs = some r →
    (∀ (x1 : Int32) (x2 : Int32) (x3 : Int32) (x4 : Int32), lab = 0 → xs = [x1, x2, x3, x4] → ys = [] → zs = [] → ∀ h : UH, HW (mkw c0 c1 c2 c3 c4 c5 c6 c7 c8 c9 c10 c11 c12 c13) d h → ∀ QQ : UR → Prop, QQ (some (.int r), h) → Ends (EX D) (u_at kl_287) (5, [some (.ref a0), some (.int x1), some (.int x2), some (.int x3), some (.int x4), none], [], h) QQ) ∧
    (∀ (x1 : Int32) (x2 : Int32) (x3 : Int32) (x4 : Int32) (x5 : Int32), lab = 1 → xs = [x1, x2, x3, x4, x5] → ys = [] → zs = [] → ∀ h : UH, HW (mkw c0 c1 c2 c3 c4 c5 c6 c7 c8 c9 c10 c11 c12 c13) d h → ∀ QQ : UR → Prop, QQ (some (.int r), h) → Ends (EX D) (u_at kl_287) (31, [some (.ref a0), some (.int x1), some (.int x2), some (.int x3), some (.int x4), some (.int x5)], [], h) QQ) := by
  refine G_287.partial_correctness _ _ (motive := fun lab xs ys zs r =>
    (∀ (x1 : Int32) (x2 : Int32) (x3 : Int32) (x4 : Int32), lab = 0 → xs = [x1, x2, x3, x4] → ys = [] → zs = [] → ∀ h : UH, HW (mkw c0 c1 c2 c3 c4 c5 c6 c7 c8 c9 c10 c11 c12 c13) d h → ∀ QQ : UR → Prop, QQ (some (.int r), h) → Ends (EX D) (u_at kl_287) (5, [some (.ref a0), some (.int x1), some (.int x2), some (.int x3), some (.int x4), none], [], h) QQ) ∧
    (∀ (x1 : Int32) (x2 : Int32) (x3 : Int32) (x4 : Int32) (x5 : Int32), lab = 1 → xs = [x1, x2, x3, x4, x5] → ys = [] → zs = [] → ∀ h : UH, HW (mkw c0 c1 c2 c3 c4 c5 c6 c7 c8 c9 c10 c11 c12 c13) d h → ∀ QQ : UR → Prop, QQ (some (.int r), h) → Ends (EX D) (u_at kl_287) (31, [some (.ref a0), some (.int x1), some (.int x2), some (.int x3), some (.int x4), some (.int x5)], [], h) QQ)) ?_
  intro G ih lab xs ys zs r hF
  refine ⟨?_, ?_⟩
  · intro x1 x2 x3 x4 e1 e2 e3 e4 h hW QQ hQ
    subst e1 e2 e3 e4
    refine en_segs [(5, .iload 4, []), (7, .aload_n 0, [])] (by decide +kernel) (y := (8, [some (.ref a0), some (.int x1), some (.int x2), some (.int x3), some (.int x4), none], [.ref a0, .int x4], h)) rfl ?_
    refine en_get (by decide +kernel : u_at kl_287 8 = some (.getfield 39, [12, 20])) hW ha0 (by decide) rfl ?_
    refine en_segs [(11, .iconst 0, [])] (by decide +kernel) (y := (12, [some (.ref a0), some (.int x1), some (.int x2), some (.int x3), some (.int x4), none], [.int 0, .ref (aP d 12 20 a0), .int x4], h)) rfl ?_
    obtain ⟨v1, hv1, hF⟩ := ob_some hF
    refine en_iald (by decide +kernel : u_at kl_287 12 = some (.iaload, [])) hW ha0 rfl (by decide) hv1 ?_
    refine en_ic_ge (by decide +kernel : u_at kl_287 13 = some (.if_icmp .ge 76, [89])) (fun b2 => ?_) (fun b2 => ?_)
    · replace hF := i_pos b2 hF
      refine en_segs [(89, .iload_n 3, [])] (by decide +kernel) (y := (90, [some (.ref a0), some (.int x1), some (.int x2), some (.int x3), some (.int x4), none], [.int x3], h)) rfl ?_
      obtain rfl := Option.some.inj hF
      exact en_ret (by decide +kernel : u_at kl_287 90 = some (.ireturn, [0])) rfl (hQ)
    · replace hF := i_neg b2 hF
      refine en_segs [(16, .iload_n 2, []), (17, .iload 4, [])] (by decide +kernel) (y := (19, [some (.ref a0), some (.int x1), some (.int x2), some (.int x3), some (.int x4), none], [.int x4, .int x2], h)) rfl ?_
      obtain ⟨r3, hr3, hF⟩ := ob_some hF
      refine en_si (r := []) (by decide +kernel : u_at kl_287 19 = some (.invokestatic 361, [171, 2])) rfl rfl (Nat.le_of_ble_eq_true rfl) (e_171 (D := D) (by omega) hW hr3) (fun h' q => ?_)
      subst q
      refine en_if_ne (by decide +kernel : u_at kl_287 22 = some (.ifCond .ne 6, [28])) (fun b4 => ?_) (fun b4 => ?_)
      · replace hF := i_pos b4 hF
        refine en_segs [(25, .goto 58, [83]), (83, .iinc 4 1, []), (86, .goto (-81), [5])] (by decide +kernel) (y := (5, [some (.ref a0), some (.int x1), some (.int x2), some (.int x3), some (.int (x4 + 1)), none], [], h)) rfl ?_
        exact (ih _ _ _ _ _ hF).1 _ _ _ _ rfl rfl rfl rfl  _ hW _ hQ
      · replace hF := i_neg b4 hF
        refine en_segs [(28, .iconst 0, []), (29, .istore 5, [])] (by decide +kernel) (y := (31, [some (.ref a0), some (.int x1), some (.int x2), some (.int x3), some (.int x4), some (.int 0)], [], h)) rfl ?_
        exact (ih _ _ _ _ _ hF).2 _ _ _ _ _ rfl rfl rfl rfl  _ hW _ hQ
  · intro x1 x2 x3 x4 x5 e1 e2 e3 e4 h hW QQ hQ
    subst e1 e2 e3 e4
    refine en_segs [(31, .iload 5, []), (33, .aload_n 0, [])] (by decide +kernel) (y := (34, [some (.ref a0), some (.int x1), some (.int x2), some (.int x3), some (.int x4), some (.int x5)], [.ref a0, .int x5], h)) rfl ?_
    refine en_get (by decide +kernel : u_at kl_287 34 = some (.getfield 39, [12, 20])) hW ha0 (by decide) rfl ?_
    refine en_segs [(37, .iconst 0, [])] (by decide +kernel) (y := (38, [some (.ref a0), some (.int x1), some (.int x2), some (.int x3), some (.int x4), some (.int x5)], [.int 0, .ref (aP d 12 20 a0), .int x5], h)) rfl ?_
    obtain ⟨v5, hv5, hF⟩ := ob_some hF
    refine en_iald (by decide +kernel : u_at kl_287 38 = some (.iaload, [])) hW ha0 rfl (by decide) hv5 ?_
    refine en_ic_ge (by decide +kernel : u_at kl_287 39 = some (.if_icmp .ge 44, [83])) (fun b6 => ?_) (fun b6 => ?_)
    · replace hF := i_pos b6 hF
      refine en_segs [(83, .iinc 4 1, []), (86, .goto (-81), [5])] (by decide +kernel) (y := (5, [some (.ref a0), some (.int x1), some (.int x2), some (.int x3), some (.int (x4 + 1)), some (.int x5)], [], h)) rfl ?_
      refine en_fg (fg_k (fg_k (fg_k (fg_k (fg_k (fg_d fg_0)))))) ?_
      exact (ih _ _ _ _ _ hF).1 _ _ _ _ rfl rfl rfl rfl  _ hW _ hQ
    · replace hF := i_neg b6 hF
      refine en_segs [(42, .iload_n 3, []), (43, .aload_n 0, []), (44, .iload 4, [])] (by decide +kernel) (y := (46, [some (.ref a0), some (.int x1), some (.int x2), some (.int x3), some (.int x4), some (.int x5)], [.int x4, .ref a0, .int x3], h)) rfl ?_
      obtain ⟨r7, hr7, hF⟩ := ob_some hF
      refine en_vi (r := [.int x3]) (by decide +kernel : u_at kl_287 46 = some (.invokevirtual 378, [232, 1, 12])) hW ha0 rfl rfl (Nat.le_of_ble_eq_true rfl) (e_232 (D := D) (by omega) hW ha0 hr7) (fun h' q => ?_)
      subst q
      refine en_segs [(49, .iload 5, [])] (by decide +kernel) (y := (51, [some (.ref a0), some (.int x1), some (.int x2), some (.int x3), some (.int x4), some (.int x5)], [.int x5, .int r7, .int x3], h)) rfl ?_
      obtain ⟨r8, hr8, hF⟩ := ob_some hF
      refine en_si (r := [.int x3]) (by decide +kernel : u_at kl_287 51 = some (.invokestatic 361, [171, 2])) rfl rfl (Nat.le_of_ble_eq_true rfl) (e_171 (D := D) (by omega) hW hr8) (fun h' q => ?_)
      subst q
      obtain ⟨t9, hX, hK⟩ := ob_some hF
      have j10 : Ends (EX D) (u_at kl_287) (75, [some (.ref a0), some (.int x1), some (.int x2), some (.int x3), some (.int x4), some (.int x5)], [.int t9, .int x3], h) QQ := by
        have hF := hK
        refine en_segs [(75, .ior, []), (76, .istore_n 3, []), (77, .iinc 5 1, []), (80, .goto (-49), [31])] (by decide +kernel) (y := (31, [some (.ref a0), some (.int x1), some (.int x2), some (.int (x3 ||| t9)), some (.int x4), some (.int (x5 + 1))], [], h)) rfl ?_
        exact (ih _ _ _ _ _ hF).2 _ _ _ _ _ rfl rfl rfl rfl  _ hW _ hQ
      have hF := hX
      refine en_if_eq (by decide +kernel : u_at kl_287 54 = some (.ifCond .eq 20, [74])) (fun b11 => ?_) (fun b11 => ?_)
      · replace hF := i_pos b11 hF
        refine en_segs [(74, .iconst 0, [])] (by decide +kernel) (y := (75, [some (.ref a0), some (.int x1), some (.int x2), some (.int x3), some (.int x4), some (.int x5)], [.int 0, .int x3], h)) rfl ?_
        obtain rfl := Option.some.inj hF
        exact j10
      · replace hF := i_neg b11 hF
        refine en_segs [(57, .aload_n 0, []), (58, .iload_n 1, []), (59, .iload 5, [])] (by decide +kernel) (y := (61, [some (.ref a0), some (.int x1), some (.int x2), some (.int x3), some (.int x4), some (.int x5)], [.int x5, .int x1, .ref a0, .int x3], h)) rfl ?_
        obtain ⟨r12, hr12, hF⟩ := ob_some hF
        refine en_vi (r := [.int x3]) (by decide +kernel : u_at kl_287 61 = some (.invokevirtual 514, [288, 2, 12])) hW ha0 rfl rfl (Nat.le_of_ble_eq_true rfl) (e_288 (D := D) (by omega) hW ha0 hr12) (fun h' q => ?_)
        subst q
        refine en_if_eq (by decide +kernel : u_at kl_287 64 = some (.ifCond .eq 10, [74])) (fun b13 => ?_) (fun b13 => ?_)
        · replace hF := i_pos b13 hF
          refine en_segs [(74, .iconst 0, [])] (by decide +kernel) (y := (75, [some (.ref a0), some (.int x1), some (.int x2), some (.int x3), some (.int x4), some (.int x5)], [.int 0, .int x3], h)) rfl ?_
          obtain rfl := Option.some.inj hF
          exact j10
        · replace hF := i_neg b13 hF
          refine en_segs [(67, .iconst 1, []), (68, .iload 5, []), (70, .ishl, []), (71, .goto 4, [75])] (by decide +kernel) (y := (75, [some (.ref a0), some (.int x1), some (.int x2), some (.int x3), some (.int x4), some (.int x5)], [.int (1 <<< (x5 &&& 31)), .int x3], h)) rfl ?_
          obtain rfl := Option.some.inj hF
          exact j10
def F_287 (c12 : Cl) (a0 : Nat) (p1 : Int32) (p2 : Int32) : Option Int32 :=
  G_287 c12 a0 0 [p1, p2, p2, 0] [] []
set_option maxRecDepth 100000 in
set_option maxHeartbeats 4000000 in
/-- HeadCountsModel.stepsOf -/
theorem e_287 {D : Nat} {c0 c1 c2 c3 c4 c5 c6 c7 c8 c9 c10 c11 c12 c13 : Cl} {d : Ad} {h : UH} {a0 : Nat} {p1 : Int32} {p2 : Int32} {r : Int32} (hD : 4 ≤ D) (hW : HW (mkw c0 c1 c2 c3 c4 c5 c6 c7 c8 c9 c10 c11 c12 c13) d h) (ha0 : aK d a0 = (0, 12, 0)) (hF : F_287 c12 a0 p1 p2 = some r) : ∃ q, EX D 287 [.ref a0, .int p1, .int p2] h q ∧ q.1 = some (.int r) ∧ h = q.2 := by
  obtain ⟨D, rfl⟩ : ∃ E, D = E + 1 := ⟨D - 1, by omega⟩
  unfold F_287 at hF
  refine ex_in (kl := kl_287) (nL := 6) rfl (by decide +kernel) (Nat.le_of_ble_eq_true rfl) ?_
  obtain ⟨QQ, hQQ⟩ : ∃ QQ : UR → Prop, QQ = (fun q : UR => q.1 = some (.int r) ∧ h = q.2) := ⟨_, rfl⟩
  rw [← hQQ]
  have hQ : QQ (some (.int r), h) := by rw [hQQ]; exact ⟨rfl, rfl⟩
  clear hQQ
  show Ends (EX D) (u_at kl_287) (0, [some (.ref a0), some (.int p1), some (.int p2), none, none, none], [], h) QQ
  refine en_segs [(0, .iload_n 2, []), (1, .istore_n 3, []), (2, .iconst 0, []), (3, .istore 4, [])] (by decide +kernel) (y := (5, [some (.ref a0), some (.int p1), some (.int p2), some (.int p2), some (.int 0), none], [], h)) rfl ?_
  exact (g_287 (D := D) hD ha0 _ _ _ _ _ hF).1 _ _ _ _ rfl rfl rfl rfl  _ hW _ hQ
def G_289 (a0 : Nat) (lab : Nat) (xs : List Int32) (ys : List Int64) (zs : List Nat) (c12 : Cl) : Option Cl := match lab, xs, ys, zs with
  | 0, [x1, x2], [], [] =>
    if 64 ≤ x2 then
    G_289 a0 1 [x1, 1] [] [] c12
    else
    stl c12 44 a0 64 x2 0 >>= fun c12_2 =>
    G_289 a0 0 [x1, x2 + 1] [] [] c12_2
  | 1, [x1, x2], [], [] =>
    if 64 ≤ x2 then
    G_289 a0 4 [0] [] [] c12
    else
    ldl (cB c12 43 a0) 64 x2 >>= fun v4 =>
    if (lg_cmp v4 0) = 0 then
    G_289 a0 1 [x1, x2 + 1] [] [] c12
    else
    F_287 c12 a0 x1 x2 >>= fun r6 =>
    G_289 a0 2 [x1, x2, r6, 0] [] [] c12
  | 2, [x1, x2, x3, x4], [], [] =>
    if 64 ≤ x4 then
    G_289 a0 1 [x1, x2 + 1] [] [] c12
    else
    G_289 a0 3 [x1, x2, x3, x4, 0, 0] [] [] c12
  | 3, [x1, x2, x3, x4, x5, x6], [], [] =>
    ald (cA c12 20 a0) 221 0 >>= fun v11 =>
    if v11 ≤ x6 then
    ((if x5 = 0 then
    some c12
    else
    ldl (cB c12 44 a0) 64 x5 >>= fun v16 =>
    ldl (cB c12 43 a0) 64 x2 >>= fun v17 =>
    stl c12 44 a0 64 x5 (v16 + v17) >>= fun c12_18 =>
    some c12_18) : Option (Cl)) >>= fun (t13 : Cl) =>
    G_289 a0 2 [x1, x2, x3, x4 + 1] [] [] t13
    else
    F_171 x3 x6 >>= fun r19 =>
    ((if r19 = 0 then
    some 0
    else
    F_286 c12 a0 x6 >>= fun r23 =>
    if r23 = x4 then
    some (1 <<< (x6 &&& 31))
    else
    some 0) : Option (Int32)) >>= fun (t20 : Int32) =>
    G_289 a0 3 [x1, x2, x3, x4, x5 ||| t20, x6 + 1] [] [] c12
  | 4, [x2], [], [] =>
    if 64 ≤ x2 then
    some c12
    else
    ldl (cB c12 44 a0) 64 x2 >>= fun v8 =>
    stl c12 43 a0 64 x2 v8 >>= fun c12_9 =>
    G_289 a0 4 [x2 + 1] [] [] c12_9
  | _, _, _, _ => none
partial_fixpoint
set_option maxRecDepth 100000 in
set_option maxHeartbeats 4000000 in
theorem g_289 {D : Nat} (hD : 5 ≤ D + 1) {c0 c1 c2 c3 c4 c5 c6 c7 c8 c9 c10 c11 c13 : Cl} {d : Ad} {a0 : Nat} (ha0 : aK d a0 = (0, 12, 0)) : ∀ (lab : Nat) (xs : List Int32) (ys : List Int64) (zs : List Nat) (c12 : Cl) (r : Cl), G_289 a0 lab xs ys zs c12 = some r →
    (∀ (x1 : Int32) (x2 : Int32), lab = 0 → xs = [x1, x2] → ys = [] → zs = [] → ∀ h : UH, HW (mkw c0 c1 c2 c3 c4 c5 c6 c7 c8 c9 c10 c11 c12 c13) d h → ∀ QQ : UR → Prop, (∀ h' : UH, HW (mkw c0 c1 c2 c3 c4 c5 c6 c7 c8 c9 c10 c11 r c13) d h' → QQ (none, h')) → Ends (EX D) (u_at kl_289) (2, [some (.ref a0), some (.int x1), some (.int x2), none, none, none, none], [], h) QQ) ∧
    (∀ (x1 : Int32) (x2 : Int32), lab = 1 → xs = [x1, x2] → ys = [] → zs = [] → ∀ h : UH, HW (mkw c0 c1 c2 c3 c4 c5 c6 c7 c8 c9 c10 c11 c12 c13) d h → ∀ QQ : UR → Prop, (∀ h' : UH, HW (mkw c0 c1 c2 c3 c4 c5 c6 c7 c8 c9 c10 c11 r c13) d h' → QQ (none, h')) → Ends (EX D) (u_at kl_289) (23, [some (.ref a0), some (.int x1), some (.int x2), none, none, none, none], [], h) QQ) ∧
    (∀ (x1 : Int32) (x2 : Int32) (x3 : Int32) (x4 : Int32), lab = 2 → xs = [x1, x2, x3, x4] → ys = [] → zs = [] → ∀ h : UH, HW (mkw c0 c1 c2 c3 c4 c5 c6 c7 c8 c9 c10 c11 c12 c13) d h → ∀ QQ : UR → Prop, (∀ h' : UH, HW (mkw c0 c1 c2 c3 c4 c5 c6 c7 c8 c9 c10 c11 r c13) d h' → QQ (none, h')) → Ends (EX D) (u_at kl_289) (53, [some (.ref a0), some (.int x1), some (.int x2), some (.int x3), some (.int x4), none, none], [], h) QQ) ∧
    (∀ (x1 : Int32) (x2 : Int32) (x3 : Int32) (x4 : Int32) (x5 : Int32) (x6 : Int32), lab = 3 → xs = [x1, x2, x3, x4, x5, x6] → ys = [] → zs = [] → ∀ h : UH, HW (mkw c0 c1 c2 c3 c4 c5 c6 c7 c8 c9 c10 c11 c12 c13) d h → ∀ QQ : UR → Prop, (∀ h' : UH, HW (mkw c0 c1 c2 c3 c4 c5 c6 c7 c8 c9 c10 c11 r c13) d h' → QQ (none, h')) → Ends (EX D) (u_at kl_289) (66, [some (.ref a0), some (.int x1), some (.int x2), some (.int x3), some (.int x4), some (.int x5), some (.int x6)], [], h) QQ) ∧
    (∀ (x2 : Int32), lab = 4 → xs = [x2] → ys = [] → zs = [] → ∀ h : UH, HW (mkw c0 c1 c2 c3 c4 c5 c6 c7 c8 c9 c10 c11 c12 c13) d h → ∀ QQ : UR → Prop, (∀ h' : UH, HW (mkw c0 c1 c2 c3 c4 c5 c6 c7 c8 c9 c10 c11 r c13) d h' → QQ (none, h')) → Ends (EX D) (u_at kl_289) (151, [some (.ref a0), none, some (.int x2), none, none, none, none], [], h) QQ) := by
  refine G_289.partial_correctness _ (motive := fun lab xs ys zs c12 r =>
    (∀ (x1 : Int32) (x2 : Int32), lab = 0 → xs = [x1, x2] → ys = [] → zs = [] → ∀ h : UH, HW (mkw c0 c1 c2 c3 c4 c5 c6 c7 c8 c9 c10 c11 c12 c13) d h → ∀ QQ : UR → Prop, (∀ h' : UH, HW (mkw c0 c1 c2 c3 c4 c5 c6 c7 c8 c9 c10 c11 r c13) d h' → QQ (none, h')) → Ends (EX D) (u_at kl_289) (2, [some (.ref a0), some (.int x1), some (.int x2), none, none, none, none], [], h) QQ) ∧
    (∀ (x1 : Int32) (x2 : Int32), lab = 1 → xs = [x1, x2] → ys = [] → zs = [] → ∀ h : UH, HW (mkw c0 c1 c2 c3 c4 c5 c6 c7 c8 c9 c10 c11 c12 c13) d h → ∀ QQ : UR → Prop, (∀ h' : UH, HW (mkw c0 c1 c2 c3 c4 c5 c6 c7 c8 c9 c10 c11 r c13) d h' → QQ (none, h')) → Ends (EX D) (u_at kl_289) (23, [some (.ref a0), some (.int x1), some (.int x2), none, none, none, none], [], h) QQ) ∧
    (∀ (x1 : Int32) (x2 : Int32) (x3 : Int32) (x4 : Int32), lab = 2 → xs = [x1, x2, x3, x4] → ys = [] → zs = [] → ∀ h : UH, HW (mkw c0 c1 c2 c3 c4 c5 c6 c7 c8 c9 c10 c11 c12 c13) d h → ∀ QQ : UR → Prop, (∀ h' : UH, HW (mkw c0 c1 c2 c3 c4 c5 c6 c7 c8 c9 c10 c11 r c13) d h' → QQ (none, h')) → Ends (EX D) (u_at kl_289) (53, [some (.ref a0), some (.int x1), some (.int x2), some (.int x3), some (.int x4), none, none], [], h) QQ) ∧
    (∀ (x1 : Int32) (x2 : Int32) (x3 : Int32) (x4 : Int32) (x5 : Int32) (x6 : Int32), lab = 3 → xs = [x1, x2, x3, x4, x5, x6] → ys = [] → zs = [] → ∀ h : UH, HW (mkw c0 c1 c2 c3 c4 c5 c6 c7 c8 c9 c10 c11 c12 c13) d h → ∀ QQ : UR → Prop, (∀ h' : UH, HW (mkw c0 c1 c2 c3 c4 c5 c6 c7 c8 c9 c10 c11 r c13) d h' → QQ (none, h')) → Ends (EX D) (u_at kl_289) (66, [some (.ref a0), some (.int x1), some (.int x2), some (.int x3), some (.int x4), some (.int x5), some (.int x6)], [], h) QQ) ∧
    (∀ (x2 : Int32), lab = 4 → xs = [x2] → ys = [] → zs = [] → ∀ h : UH, HW (mkw c0 c1 c2 c3 c4 c5 c6 c7 c8 c9 c10 c11 c12 c13) d h → ∀ QQ : UR → Prop, (∀ h' : UH, HW (mkw c0 c1 c2 c3 c4 c5 c6 c7 c8 c9 c10 c11 r c13) d h' → QQ (none, h')) → Ends (EX D) (u_at kl_289) (151, [some (.ref a0), none, some (.int x2), none, none, none, none], [], h) QQ)) ?_
  intro G ih lab xs ys zs c12 r hF
  refine ⟨?_, ?_, ?_, ?_, ?_⟩
  · intro x1 x2 e1 e2 e3 e4 h hW QQ hQ
    subst e1 e2 e3 e4
    refine en_segs [(2, .iload_n 2, []), (3, .bipush 64, [])] (by decide +kernel) (y := (5, [some (.ref a0), some (.int x1), some (.int x2), none, none, none, none], [.int 64, .int x2], h)) rfl ?_
    refine en_ic_ge (by decide +kernel : u_at kl_289 5 = some (.if_icmp .ge 16, [21])) (fun b1 => ?_) (fun b1 => ?_)
    · replace hF := i_pos b1 hF
      refine en_segs [(21, .iconst 1, []), (22, .istore_n 2, [])] (by decide +kernel) (y := (23, [some (.ref a0), some (.int x1), some (.int 1), none, none, none, none], [], h)) rfl ?_
      exact (ih _ _ _ _ _ _ hF).2.1 _ _ rfl rfl rfl rfl  _ hW _ hQ
    · replace hF := i_neg b1 hF
      refine en_segs [(8, .aload_n 0, [])] (by decide +kernel) (y := (9, [some (.ref a0), some (.int x1), some (.int x2), none, none, none, none], [.ref a0], h)) rfl ?_
      refine en_get (by decide +kernel : u_at kl_289 9 = some (.getfield 101, [12, 44])) hW ha0 (by decide) rfl ?_
      refine en_segs [(12, .iload_n 2, []), (13, .lconst 0, [])] (by decide +kernel) (y := (14, [some (.ref a0), some (.int x1), some (.int x2), none, none, none, none], [.long 0, .int x2, .ref (aP d 12 44 a0)], h)) rfl ?_
      obtain ⟨c12_2, hc12_2, hF⟩ := ob_some hF
      refine en_last (by decide +kernel : u_at kl_289 14 = some (.lastore, [])) hW ha0 rfl (by decide) hc12_2 (fun h hW => ?_)
      have hW : HW (mkw c0 c1 c2 c3 c4 c5 c6 c7 c8 c9 c10 c11 c12_2 c13) d h := hW
      refine en_segs [(15, .iinc 2 1, []), (18, .goto (-16), [2])] (by decide +kernel) (y := (2, [some (.ref a0), some (.int x1), some (.int (x2 + 1)), none, none, none, none], [], h)) rfl ?_
      exact (ih _ _ _ _ _ _ hF).1 _ _ rfl rfl rfl rfl  _ hW _ hQ
  · intro x1 x2 e1 e2 e3 e4 h hW QQ hQ
    subst e1 e2 e3 e4
    refine en_segs [(23, .iload_n 2, []), (24, .bipush 64, [])] (by decide +kernel) (y := (26, [some (.ref a0), some (.int x1), some (.int x2), none, none, none, none], [.int 64, .int x2], h)) rfl ?_
    refine en_ic_ge (by decide +kernel : u_at kl_289 26 = some (.if_icmp .ge 123, [149])) (fun b3 => ?_) (fun b3 => ?_)
    · replace hF := i_pos b3 hF
      refine en_segs [(149, .iconst 0, []), (150, .istore_n 2, [])] (by decide +kernel) (y := (151, [some (.ref a0), some (.int x1), some (.int 0), none, none, none, none], [], h)) rfl ?_
      refine en_fg (fg_k (fg_d (fg_k (fg_k (fg_k (fg_k (fg_k fg_0))))))) ?_
      exact (ih _ _ _ _ _ _ hF).2.2.2.2 _ rfl rfl rfl rfl  _ hW _ hQ
    · replace hF := i_neg b3 hF
      refine en_segs [(29, .aload_n 0, [])] (by decide +kernel) (y := (30, [some (.ref a0), some (.int x1), some (.int x2), none, none, none, none], [.ref a0], h)) rfl ?_
      refine en_get (by decide +kernel : u_at kl_289 30 = some (.getfield 98, [12, 43])) hW ha0 (by decide) rfl ?_
      refine en_segs [(33, .iload_n 2, [])] (by decide +kernel) (y := (34, [some (.ref a0), some (.int x1), some (.int x2), none, none, none, none], [.int x2, .ref (aP d 12 43 a0)], h)) rfl ?_
      obtain ⟨v4, hv4, hF⟩ := ob_some hF
      refine en_lald (by decide +kernel : u_at kl_289 34 = some (.laload, [])) hW ha0 rfl (by decide) hv4 ?_
      refine en_segs [(35, .lconst 0, []), (36, .lcmp, [])] (by decide +kernel) (y := (37, [some (.ref a0), some (.int x1), some (.int x2), none, none, none, none], [.int (lg_cmp v4 0)], h)) rfl ?_
      refine en_if_ne (by decide +kernel : u_at kl_289 37 = some (.ifCond .ne 6, [43])) (fun b5 => ?_) (fun b5 => ?_)
      · replace hF := i_pos b5 hF
        refine en_segs [(40, .goto 103, [143]), (143, .iinc 2 1, []), (146, .goto (-123), [23])] (by decide +kernel) (y := (23, [some (.ref a0), some (.int x1), some (.int (x2 + 1)), none, none, none, none], [], h)) rfl ?_
        exact (ih _ _ _ _ _ _ hF).2.1 _ _ rfl rfl rfl rfl  _ hW _ hQ
      · replace hF := i_neg b5 hF
        refine en_segs [(43, .aload_n 0, []), (44, .iload_n 1, []), (45, .iload_n 2, [])] (by decide +kernel) (y := (46, [some (.ref a0), some (.int x1), some (.int x2), none, none, none, none], [.int x2, .int x1, .ref a0], h)) rfl ?_
        obtain ⟨r6, hr6, hF⟩ := ob_some hF
        refine en_vi (r := []) (by decide +kernel : u_at kl_289 46 = some (.invokevirtual 517, [287, 2, 12])) hW ha0 rfl rfl (Nat.le_of_ble_eq_true rfl) (e_287 (D := D) (by omega) hW ha0 hr6) (fun h' q => ?_)
        subst q
        refine en_segs [(49, .istore_n 3, []), (50, .iconst 0, []), (51, .istore 4, [])] (by decide +kernel) (y := (53, [some (.ref a0), some (.int x1), some (.int x2), some (.int r6), some (.int 0), none, none], [], h)) rfl ?_
        exact (ih _ _ _ _ _ _ hF).2.2.1 _ _ _ _ rfl rfl rfl rfl  _ hW _ hQ
  · intro x1 x2 x3 x4 e1 e2 e3 e4 h hW QQ hQ
    subst e1 e2 e3 e4
    refine en_segs [(53, .iload 4, []), (55, .bipush 64, [])] (by decide +kernel) (y := (57, [some (.ref a0), some (.int x1), some (.int x2), some (.int x3), some (.int x4), none, none], [.int 64, .int x4], h)) rfl ?_
    refine en_ic_ge (by decide +kernel : u_at kl_289 57 = some (.if_icmp .ge 86, [143])) (fun b10 => ?_) (fun b10 => ?_)
    · replace hF := i_pos b10 hF
      refine en_segs [(143, .iinc 2 1, []), (146, .goto (-123), [23])] (by decide +kernel) (y := (23, [some (.ref a0), some (.int x1), some (.int (x2 + 1)), some (.int x3), some (.int x4), none, none], [], h)) rfl ?_
      refine en_fg (fg_k (fg_k (fg_k (fg_d (fg_d (fg_k (fg_k fg_0))))))) ?_
      exact (ih _ _ _ _ _ _ hF).2.1 _ _ rfl rfl rfl rfl  _ hW _ hQ
    · replace hF := i_neg b10 hF
      refine en_segs [(60, .iconst 0, []), (61, .istore 5, []), (63, .iconst 0, []), (64, .istore 6, [])] (by decide +kernel) (y := (66, [some (.ref a0), some (.int x1), some (.int x2), some (.int x3), some (.int x4), some (.int 0), some (.int 0)], [], h)) rfl ?_
      exact (ih _ _ _ _ _ _ hF).2.2.2.1 _ _ _ _ _ _ rfl rfl rfl rfl  _ hW _ hQ
  · intro x1 x2 x3 x4 x5 x6 e1 e2 e3 e4 h hW QQ hQ
    subst e1 e2 e3 e4
    refine en_segs [(66, .iload 6, []), (68, .aload_n 0, [])] (by decide +kernel) (y := (69, [some (.ref a0), some (.int x1), some (.int x2), some (.int x3), some (.int x4), some (.int x5), some (.int x6)], [.ref a0, .int x6], h)) rfl ?_
    refine en_get (by decide +kernel : u_at kl_289 69 = some (.getfield 39, [12, 20])) hW ha0 (by decide) rfl ?_
    refine en_segs [(72, .iconst 0, [])] (by decide +kernel) (y := (73, [some (.ref a0), some (.int x1), some (.int x2), some (.int x3), some (.int x4), some (.int x5), some (.int x6)], [.int 0, .ref (aP d 12 20 a0), .int x6], h)) rfl ?_
    obtain ⟨v11, hv11, hF⟩ := ob_some hF
    refine en_iald (by decide +kernel : u_at kl_289 73 = some (.iaload, [])) hW ha0 rfl (by decide) hv11 ?_
    refine en_ic_ge (by decide +kernel : u_at kl_289 74 = some (.if_icmp .ge 42, [116])) (fun b12 => ?_) (fun b12 => ?_)
    · replace hF := i_pos b12 hF
      refine en_segs [(116, .iload 5, [])] (by decide +kernel) (y := (118, [some (.ref a0), some (.int x1), some (.int x2), some (.int x3), some (.int x4), some (.int x5), some (.int x6)], [.int x5], h)) rfl ?_
      obtain ⟨t13, hX, hK⟩ := ob_some hF
      have j14 : ∀ h : UH, HW (mkw c0 c1 c2 c3 c4 c5 c6 c7 c8 c9 c10 c11 t13 c13) d h → Ends (EX D) (u_at kl_289) (137, [some (.ref a0), some (.int x1), some (.int x2), some (.int x3), some (.int x4), some (.int x5), some (.int x6)], [], h) QQ := by
        intro h hW
        have hF := hK
        refine en_segs [(137, .iinc 4 1, []), (140, .goto (-87), [53])] (by decide +kernel) (y := (53, [some (.ref a0), some (.int x1), some (.int x2), some (.int x3), some (.int (x4 + 1)), some (.int x5), some (.int x6)], [], h)) rfl ?_
        refine en_fg (fg_k (fg_k (fg_k (fg_k (fg_k (fg_d (fg_d fg_0))))))) ?_
        exact (ih _ _ _ _ _ _ hF).2.2.1 _ _ _ _ rfl rfl rfl rfl  _ hW _ hQ
      have hF := hX
      refine en_if_eq (by decide +kernel : u_at kl_289 118 = some (.ifCond .eq 19, [137])) (fun b15 => ?_) (fun b15 => ?_)
      · replace hF := i_pos b15 hF
        obtain rfl := Option.some.inj hF
        exact j14 _ hW
      · replace hF := i_neg b15 hF
        refine en_segs [(121, .aload_n 0, [])] (by decide +kernel) (y := (122, [some (.ref a0), some (.int x1), some (.int x2), some (.int x3), some (.int x4), some (.int x5), some (.int x6)], [.ref a0], h)) rfl ?_
        refine en_get (by decide +kernel : u_at kl_289 122 = some (.getfield 101, [12, 44])) hW ha0 (by decide) rfl ?_
        refine en_segs [(125, .iload 5, []), (127, .dup2, [])] (by decide +kernel) (y := (128, [some (.ref a0), some (.int x1), some (.int x2), some (.int x3), some (.int x4), some (.int x5), some (.int x6)], [.int x5, .ref (aP d 12 44 a0), .int x5, .ref (aP d 12 44 a0)], h)) rfl ?_
        obtain ⟨v16, hv16, hF⟩ := ob_some hF
        refine en_lald (by decide +kernel : u_at kl_289 128 = some (.laload, [])) hW ha0 rfl (by decide) hv16 ?_
        refine en_segs [(129, .aload_n 0, [])] (by decide +kernel) (y := (130, [some (.ref a0), some (.int x1), some (.int x2), some (.int x3), some (.int x4), some (.int x5), some (.int x6)], [.ref a0, .long v16, .int x5, .ref (aP d 12 44 a0)], h)) rfl ?_
        refine en_get (by decide +kernel : u_at kl_289 130 = some (.getfield 98, [12, 43])) hW ha0 (by decide) rfl ?_
        refine en_segs [(133, .iload_n 2, [])] (by decide +kernel) (y := (134, [some (.ref a0), some (.int x1), some (.int x2), some (.int x3), some (.int x4), some (.int x5), some (.int x6)], [.int x2, .ref (aP d 12 43 a0), .long v16, .int x5, .ref (aP d 12 44 a0)], h)) rfl ?_
        obtain ⟨v17, hv17, hF⟩ := ob_some hF
        refine en_lald (by decide +kernel : u_at kl_289 134 = some (.laload, [])) hW ha0 rfl (by decide) hv17 ?_
        refine en_segs [(135, .ladd, [])] (by decide +kernel) (y := (136, [some (.ref a0), some (.int x1), some (.int x2), some (.int x3), some (.int x4), some (.int x5), some (.int x6)], [.long (v16 + v17), .int x5, .ref (aP d 12 44 a0)], h)) rfl ?_
        obtain ⟨c12_18, hc12_18, hF⟩ := ob_some hF
        refine en_last (by decide +kernel : u_at kl_289 136 = some (.lastore, [])) hW ha0 rfl (by decide) hc12_18 (fun h hW => ?_)
        have hW : HW (mkw c0 c1 c2 c3 c4 c5 c6 c7 c8 c9 c10 c11 c12_18 c13) d h := hW
        obtain rfl := Option.some.inj hF
        exact j14 _ hW
    · replace hF := i_neg b12 hF
      refine en_segs [(77, .iload 5, []), (79, .iload_n 3, []), (80, .iload 6, [])] (by decide +kernel) (y := (82, [some (.ref a0), some (.int x1), some (.int x2), some (.int x3), some (.int x4), some (.int x5), some (.int x6)], [.int x6, .int x3, .int x5], h)) rfl ?_
      obtain ⟨r19, hr19, hF⟩ := ob_some hF
      refine en_si (r := [.int x5]) (by decide +kernel : u_at kl_289 82 = some (.invokestatic 361, [171, 2])) rfl rfl (Nat.le_of_ble_eq_true rfl) (e_171 (D := D) (by omega) hW hr19) (fun h' q => ?_)
      subst q
      obtain ⟨t20, hX, hK⟩ := ob_some hF
      have j21 : ∀ h : UH, HW (mkw c0 c1 c2 c3 c4 c5 c6 c7 c8 c9 c10 c11 c12 c13) d h → Ends (EX D) (u_at kl_289) (107, [some (.ref a0), some (.int x1), some (.int x2), some (.int x3), some (.int x4), some (.int x5), some (.int x6)], [.int t20, .int x5], h) QQ := by
        intro h hW
        have hF := hK
        refine en_segs [(107, .ior, []), (108, .istore 5, []), (110, .iinc 6 1, []), (113, .goto (-47), [66])] (by decide +kernel) (y := (66, [some (.ref a0), some (.int x1), some (.int x2), some (.int x3), some (.int x4), some (.int (x5 ||| t20)), some (.int (x6 + 1))], [], h)) rfl ?_
        exact (ih _ _ _ _ _ _ hF).2.2.2.1 _ _ _ _ _ _ rfl rfl rfl rfl  _ hW _ hQ
      have hF := hX
      refine en_if_eq (by decide +kernel : u_at kl_289 85 = some (.ifCond .eq 21, [106])) (fun b22 => ?_) (fun b22 => ?_)
      · replace hF := i_pos b22 hF
        refine en_segs [(106, .iconst 0, [])] (by decide +kernel) (y := (107, [some (.ref a0), some (.int x1), some (.int x2), some (.int x3), some (.int x4), some (.int x5), some (.int x6)], [.int 0, .int x5], h)) rfl ?_
        obtain rfl := Option.some.inj hF
        exact j21 _ hW
      · replace hF := i_neg b22 hF
        refine en_segs [(88, .aload_n 0, []), (89, .iload 6, [])] (by decide +kernel) (y := (91, [some (.ref a0), some (.int x1), some (.int x2), some (.int x3), some (.int x4), some (.int x5), some (.int x6)], [.int x6, .ref a0, .int x5], h)) rfl ?_
        obtain ⟨r23, hr23, hF⟩ := ob_some hF
        refine en_vi (r := [.int x5]) (by decide +kernel : u_at kl_289 91 = some (.invokevirtual 520, [286, 1, 12])) hW ha0 rfl rfl (Nat.le_of_ble_eq_true rfl) (e_286 (D := D) (by omega) hW ha0 hr23) (fun h' q => ?_)
        subst q
        refine en_segs [(94, .iload 4, [])] (by decide +kernel) (y := (96, [some (.ref a0), some (.int x1), some (.int x2), some (.int x3), some (.int x4), some (.int x5), some (.int x6)], [.int x4, .int r23, .int x5], h)) rfl ?_
        refine en_ic_ne (by decide +kernel : u_at kl_289 96 = some (.if_icmp .ne 10, [106])) (fun b24 => ?_) (fun b24 => ?_)
        · replace hF := i_pos b24 hF
          refine en_segs [(99, .iconst 1, []), (100, .iload 6, []), (102, .ishl, []), (103, .goto 4, [107])] (by decide +kernel) (y := (107, [some (.ref a0), some (.int x1), some (.int x2), some (.int x3), some (.int x4), some (.int x5), some (.int x6)], [.int (1 <<< (x6 &&& 31)), .int x5], h)) rfl ?_
          obtain rfl := Option.some.inj hF
          exact j21 _ hW
        · replace hF := i_neg b24 hF
          refine en_segs [(106, .iconst 0, [])] (by decide +kernel) (y := (107, [some (.ref a0), some (.int x1), some (.int x2), some (.int x3), some (.int x4), some (.int x5), some (.int x6)], [.int 0, .int x5], h)) rfl ?_
          obtain rfl := Option.some.inj hF
          exact j21 _ hW
  · intro x2 e1 e2 e3 e4 h hW QQ hQ
    subst e1 e2 e3 e4
    refine en_segs [(151, .iload_n 2, []), (152, .bipush 64, [])] (by decide +kernel) (y := (154, [some (.ref a0), none, some (.int x2), none, none, none, none], [.int 64, .int x2], h)) rfl ?_
    refine en_ic_ge (by decide +kernel : u_at kl_289 154 = some (.if_icmp .ge 21, [175])) (fun b7 => ?_) (fun b7 => ?_)
    · replace hF := i_pos b7 hF
      obtain rfl := Option.some.inj hF
      exact en_ret (by decide +kernel : u_at kl_289 175 = some (.return_, [])) rfl (hQ _ hW)
    · replace hF := i_neg b7 hF
      refine en_segs [(157, .aload_n 0, [])] (by decide +kernel) (y := (158, [some (.ref a0), none, some (.int x2), none, none, none, none], [.ref a0], h)) rfl ?_
      refine en_get (by decide +kernel : u_at kl_289 158 = some (.getfield 98, [12, 43])) hW ha0 (by decide) rfl ?_
      refine en_segs [(161, .iload_n 2, []), (162, .aload_n 0, [])] (by decide +kernel) (y := (163, [some (.ref a0), none, some (.int x2), none, none, none, none], [.ref a0, .int x2, .ref (aP d 12 43 a0)], h)) rfl ?_
      refine en_get (by decide +kernel : u_at kl_289 163 = some (.getfield 101, [12, 44])) hW ha0 (by decide) rfl ?_
      refine en_segs [(166, .iload_n 2, [])] (by decide +kernel) (y := (167, [some (.ref a0), none, some (.int x2), none, none, none, none], [.int x2, .ref (aP d 12 44 a0), .int x2, .ref (aP d 12 43 a0)], h)) rfl ?_
      obtain ⟨v8, hv8, hF⟩ := ob_some hF
      refine en_lald (by decide +kernel : u_at kl_289 167 = some (.laload, [])) hW ha0 rfl (by decide) hv8 ?_
      obtain ⟨c12_9, hc12_9, hF⟩ := ob_some hF
      refine en_last (by decide +kernel : u_at kl_289 168 = some (.lastore, [])) hW ha0 rfl (by decide) hc12_9 (fun h hW => ?_)
      have hW : HW (mkw c0 c1 c2 c3 c4 c5 c6 c7 c8 c9 c10 c11 c12_9 c13) d h := hW
      refine en_segs [(169, .iinc 2 1, []), (172, .goto (-21), [151])] (by decide +kernel) (y := (151, [some (.ref a0), none, some (.int (x2 + 1)), none, none, none, none], [], h)) rfl ?_
      exact (ih _ _ _ _ _ _ hF).2.2.2.2 _ rfl rfl rfl rfl  _ hW _ hQ
def F_289 (c12 : Cl) (a0 : Nat) (p1 : Int32) : Option Cl :=
  G_289 a0 0 [p1, 0] [] [] c12
set_option maxRecDepth 100000 in
set_option maxHeartbeats 4000000 in
/-- HeadCountsModel.tellsOn -/
theorem e_289 {D : Nat} {c0 c1 c2 c3 c4 c5 c6 c7 c8 c9 c10 c11 c12 c13 : Cl} {d : Ad} {h : UH} {a0 : Nat} {p1 : Int32} {r : Cl} (hD : 5 ≤ D) (hW : HW (mkw c0 c1 c2 c3 c4 c5 c6 c7 c8 c9 c10 c11 c12 c13) d h) (ha0 : aK d a0 = (0, 12, 0)) (hF : F_289 c12 a0 p1 = some r) : ∃ q, EX D 289 [.ref a0, .int p1] h q ∧ q.1 = none ∧ HW (mkw c0 c1 c2 c3 c4 c5 c6 c7 c8 c9 c10 c11 r c13) d q.2 := by
  obtain ⟨D, rfl⟩ : ∃ E, D = E + 1 := ⟨D - 1, by omega⟩
  unfold F_289 at hF
  refine ex_in (kl := kl_289) (nL := 7) rfl (by decide +kernel) (Nat.le_of_ble_eq_true rfl) ?_
  obtain ⟨QQ, hQQ⟩ : ∃ QQ : UR → Prop, QQ = (fun q : UR => q.1 = none ∧ HW (mkw c0 c1 c2 c3 c4 c5 c6 c7 c8 c9 c10 c11 r c13) d q.2) := ⟨_, rfl⟩
  rw [← hQQ]
  have hQ : ∀ h' : UH, HW (mkw c0 c1 c2 c3 c4 c5 c6 c7 c8 c9 c10 c11 r c13) d h' → QQ (none, h') := fun h' p => by rw [hQQ]; exact ⟨rfl, p⟩
  clear hQQ
  show Ends (EX D) (u_at kl_289) (0, [some (.ref a0), some (.int p1), none, none, none, none, none], [], h) QQ
  refine en_segs [(0, .iconst 0, []), (1, .istore_n 2, [])] (by decide +kernel) (y := (2, [some (.ref a0), some (.int p1), some (.int 0), none, none, none, none], [], h)) rfl ?_
  exact (g_289 (D := D) hD ha0 _ _ _ _ _ _ hF).1 _ _ rfl rfl rfl rfl  _ hW _ hQ
def G_290 (a0 : Nat) (lab : Nat) (xs : List Int32) (ys : List Int64) (zs : List Nat) (c12 : Cl) : Option (Int64 × Cl) := match lab, xs, ys, zs with
  | 0, [x1, x2, x3], [], [] =>
    if 64 ≤ x3 then
    F_223 c12 a0 x1 0 >>= fun r8 =>
    stl c12 43 a0 64 (1 <<< (r8 &&& 31)) 1 >>= fun c12_9 =>
    G_290 a0 1 [x1, x2, 0] [] [] c12_9
    else
    stl c12 43 a0 64 x3 0 >>= fun c12_10 =>
    G_290 a0 0 [x1, x2, x3 + 1] [] [] c12_10
  | 1, [x1, x2, x3], [], [] =>
    if x2 ≤ x3 then
    G_290 a0 2 [0] [0] [] c12
    else
    F_289 c12 a0 x1 >>= fun r12 =>
    G_290 a0 1 [x1, x2, x3 + 1] [] [] r12
  | 2, [x5], [y3], [] =>
    if 64 ≤ x5 then
    some (y3, c12)
    else
    ldl (cB c12 43 a0) 64 x5 >>= fun v14 =>
    G_290 a0 2 [x5 + 1] [y3 + v14] [] c12
  | _, _, _, _ => none
partial_fixpoint
set_option maxRecDepth 100000 in
set_option maxHeartbeats 4000000 in
theorem g_290 {D : Nat} (hD : 6 ≤ D + 1) {c0 c1 c2 c3 c4 c5 c6 c7 c8 c9 c10 c11 c13 : Cl} {d : Ad} {a0 : Nat} (ha0 : aK d a0 = (0, 12, 0)) : ∀ (lab : Nat) (xs : List Int32) (ys : List Int64) (zs : List Nat) (c12 : Cl) (r : (Int64 × Cl)), G_290 a0 lab xs ys zs c12 = some r →
    (∀ (x1 : Int32) (x2 : Int32) (x3 : Int32), lab = 0 → xs = [x1, x2, x3] → ys = [] → zs = [] → ∀ h : UH, HW (mkw c0 c1 c2 c3 c4 c5 c6 c7 c8 c9 c10 c11 c12 c13) d h → ∀ QQ : UR → Prop, (∀ h' : UH, HW (mkw c0 c1 c2 c3 c4 c5 c6 c7 c8 c9 c10 c11 r.2 c13) d h' → QQ (some (.long r.1), h')) → Ends (EX D) (u_at kl_290) (34, [some (.ref a0), some (.int x1), some (.int x2), some (.int x3), none, none], [], h) QQ) ∧
    (∀ (x1 : Int32) (x2 : Int32) (x3 : Int32), lab = 1 → xs = [x1, x2, x3] → ys = [] → zs = [] → ∀ h : UH, HW (mkw c0 c1 c2 c3 c4 c5 c6 c7 c8 c9 c10 c11 c12 c13) d h → ∀ QQ : UR → Prop, (∀ h' : UH, HW (mkw c0 c1 c2 c3 c4 c5 c6 c7 c8 c9 c10 c11 r.2 c13) d h' → QQ (some (.long r.1), h')) → Ends (EX D) (u_at kl_290) (69, [some (.ref a0), some (.int x1), some (.int x2), some (.int x3), none, none], [], h) QQ) ∧
    (∀ (x5 : Int32) (y3 : Int64), lab = 2 → xs = [x5] → ys = [y3] → zs = [] → ∀ h : UH, HW (mkw c0 c1 c2 c3 c4 c5 c6 c7 c8 c9 c10 c11 c12 c13) d h → ∀ QQ : UR → Prop, (∀ h' : UH, HW (mkw c0 c1 c2 c3 c4 c5 c6 c7 c8 c9 c10 c11 r.2 c13) d h' → QQ (some (.long r.1), h')) → Ends (EX D) (u_at kl_290) (90, [some (.ref a0), none, none, some (.long y3), none, some (.int x5)], [], h) QQ) := by
  refine G_290.partial_correctness _ (motive := fun lab xs ys zs c12 r =>
    (∀ (x1 : Int32) (x2 : Int32) (x3 : Int32), lab = 0 → xs = [x1, x2, x3] → ys = [] → zs = [] → ∀ h : UH, HW (mkw c0 c1 c2 c3 c4 c5 c6 c7 c8 c9 c10 c11 c12 c13) d h → ∀ QQ : UR → Prop, (∀ h' : UH, HW (mkw c0 c1 c2 c3 c4 c5 c6 c7 c8 c9 c10 c11 r.2 c13) d h' → QQ (some (.long r.1), h')) → Ends (EX D) (u_at kl_290) (34, [some (.ref a0), some (.int x1), some (.int x2), some (.int x3), none, none], [], h) QQ) ∧
    (∀ (x1 : Int32) (x2 : Int32) (x3 : Int32), lab = 1 → xs = [x1, x2, x3] → ys = [] → zs = [] → ∀ h : UH, HW (mkw c0 c1 c2 c3 c4 c5 c6 c7 c8 c9 c10 c11 c12 c13) d h → ∀ QQ : UR → Prop, (∀ h' : UH, HW (mkw c0 c1 c2 c3 c4 c5 c6 c7 c8 c9 c10 c11 r.2 c13) d h' → QQ (some (.long r.1), h')) → Ends (EX D) (u_at kl_290) (69, [some (.ref a0), some (.int x1), some (.int x2), some (.int x3), none, none], [], h) QQ) ∧
    (∀ (x5 : Int32) (y3 : Int64), lab = 2 → xs = [x5] → ys = [y3] → zs = [] → ∀ h : UH, HW (mkw c0 c1 c2 c3 c4 c5 c6 c7 c8 c9 c10 c11 c12 c13) d h → ∀ QQ : UR → Prop, (∀ h' : UH, HW (mkw c0 c1 c2 c3 c4 c5 c6 c7 c8 c9 c10 c11 r.2 c13) d h' → QQ (some (.long r.1), h')) → Ends (EX D) (u_at kl_290) (90, [some (.ref a0), none, none, some (.long y3), none, some (.int x5)], [], h) QQ)) ?_
  intro G ih lab xs ys zs c12 r hF
  refine ⟨?_, ?_, ?_⟩
  · intro x1 x2 x3 e1 e2 e3 e4 h hW QQ hQ
    subst e1 e2 e3 e4
    refine en_segs [(34, .iload_n 3, []), (35, .bipush 64, [])] (by decide +kernel) (y := (37, [some (.ref a0), some (.int x1), some (.int x2), some (.int x3), none, none], [.int 64, .int x3], h)) rfl ?_
    refine en_ic_ge (by decide +kernel : u_at kl_290 37 = some (.if_icmp .ge 16, [53])) (fun b7 => ?_) (fun b7 => ?_)
    · replace hF := i_pos b7 hF
      refine en_segs [(53, .aload_n 0, [])] (by decide +kernel) (y := (54, [some (.ref a0), some (.int x1), some (.int x2), some (.int x3), none, none], [.ref a0], h)) rfl ?_
      refine en_get (by decide +kernel : u_at kl_290 54 = some (.getfield 98, [12, 43])) hW ha0 (by decide) rfl ?_
      refine en_segs [(57, .iconst 1, []), (58, .aload_n 0, []), (59, .iload_n 1, []), (60, .iconst 0, [])] (by decide +kernel) (y := (61, [some (.ref a0), some (.int x1), some (.int x2), some (.int x3), none, none], [.int 0, .int x1, .ref a0, .int 1, .ref (aP d 12 43 a0)], h)) rfl ?_
      obtain ⟨r8, hr8, hF⟩ := ob_some hF
      refine en_vi (r := [.int 1, .ref (aP d 12 43 a0)]) (by decide +kernel : u_at kl_290 61 = some (.invokevirtual 343, [223, 2, 12])) hW ha0 rfl rfl (Nat.le_of_ble_eq_true rfl) (e_223 (D := D) (by omega) hW ha0 hr8) (fun h' q => ?_)
      subst q
      refine en_segs [(64, .ishl, []), (65, .lconst 1, [])] (by decide +kernel) (y := (66, [some (.ref a0), some (.int x1), some (.int x2), some (.int x3), none, none], [.long 1, .int (1 <<< (r8 &&& 31)), .ref (aP d 12 43 a0)], h)) rfl ?_
      obtain ⟨c12_9, hc12_9, hF⟩ := ob_some hF
      refine en_last (by decide +kernel : u_at kl_290 66 = some (.lastore, [])) hW ha0 rfl (by decide) hc12_9 (fun h hW => ?_)
      have hW : HW (mkw c0 c1 c2 c3 c4 c5 c6 c7 c8 c9 c10 c11 c12_9 c13) d h := hW
      refine en_segs [(67, .iconst 0, []), (68, .istore_n 3, [])] (by decide +kernel) (y := (69, [some (.ref a0), some (.int x1), some (.int x2), some (.int 0), none, none], [], h)) rfl ?_
      exact (ih _ _ _ _ _ _ hF).2.1 _ _ _ rfl rfl rfl rfl  _ hW _ hQ
    · replace hF := i_neg b7 hF
      refine en_segs [(40, .aload_n 0, [])] (by decide +kernel) (y := (41, [some (.ref a0), some (.int x1), some (.int x2), some (.int x3), none, none], [.ref a0], h)) rfl ?_
      refine en_get (by decide +kernel : u_at kl_290 41 = some (.getfield 98, [12, 43])) hW ha0 (by decide) rfl ?_
      refine en_segs [(44, .iload_n 3, []), (45, .lconst 0, [])] (by decide +kernel) (y := (46, [some (.ref a0), some (.int x1), some (.int x2), some (.int x3), none, none], [.long 0, .int x3, .ref (aP d 12 43 a0)], h)) rfl ?_
      obtain ⟨c12_10, hc12_10, hF⟩ := ob_some hF
      refine en_last (by decide +kernel : u_at kl_290 46 = some (.lastore, [])) hW ha0 rfl (by decide) hc12_10 (fun h hW => ?_)
      have hW : HW (mkw c0 c1 c2 c3 c4 c5 c6 c7 c8 c9 c10 c11 c12_10 c13) d h := hW
      refine en_segs [(47, .iinc 3 1, []), (50, .goto (-16), [34])] (by decide +kernel) (y := (34, [some (.ref a0), some (.int x1), some (.int x2), some (.int (x3 + 1)), none, none], [], h)) rfl ?_
      exact (ih _ _ _ _ _ _ hF).1 _ _ _ rfl rfl rfl rfl  _ hW _ hQ
  · intro x1 x2 x3 e1 e2 e3 e4 h hW QQ hQ
    subst e1 e2 e3 e4
    refine en_segs [(69, .iload_n 3, []), (70, .iload_n 2, [])] (by decide +kernel) (y := (71, [some (.ref a0), some (.int x1), some (.int x2), some (.int x3), none, none], [.int x2, .int x3], h)) rfl ?_
    refine en_ic_ge (by decide +kernel : u_at kl_290 71 = some (.if_icmp .ge 14, [85])) (fun b11 => ?_) (fun b11 => ?_)
    · replace hF := i_pos b11 hF
      refine en_segs [(85, .lconst 0, []), (86, .lstore_n 3, []), (87, .iconst 0, []), (88, .istore 5, [])] (by decide +kernel) (y := (90, [some (.ref a0), some (.int x1), some (.int x2), some (.long 0), none, some (.int 0)], [], h)) rfl ?_
      refine en_fg (fg_k (fg_d (fg_d (fg_k (fg_k (fg_k fg_0)))))) ?_
      exact (ih _ _ _ _ _ _ hF).2.2 _ _ rfl rfl rfl rfl  _ hW _ hQ
    · replace hF := i_neg b11 hF
      refine en_segs [(74, .aload_n 0, []), (75, .iload_n 1, [])] (by decide +kernel) (y := (76, [some (.ref a0), some (.int x1), some (.int x2), some (.int x3), none, none], [.int x1, .ref a0], h)) rfl ?_
      obtain ⟨r12, hr12, hF⟩ := ob_some hF
      refine en_vv (r := []) (by decide +kernel : u_at kl_290 76 = some (.invokevirtual 525, [289, 1, 12])) hW ha0 rfl rfl (Nat.le_of_ble_eq_true rfl) (e_289 (D := D) (by omega) hW ha0 hr12) (fun h hW => ?_)
      have hW : HW (mkw c0 c1 c2 c3 c4 c5 c6 c7 c8 c9 c10 c11 r12 c13) d h := hW
      refine en_segs [(79, .iinc 3 1, []), (82, .goto (-13), [69])] (by decide +kernel) (y := (69, [some (.ref a0), some (.int x1), some (.int x2), some (.int (x3 + 1)), none, none], [], h)) rfl ?_
      exact (ih _ _ _ _ _ _ hF).2.1 _ _ _ rfl rfl rfl rfl  _ hW _ hQ
  · intro x5 y3 e1 e2 e3 e4 h hW QQ hQ
    subst e1 e2 e3 e4
    refine en_segs [(90, .iload 5, []), (92, .bipush 64, [])] (by decide +kernel) (y := (94, [some (.ref a0), none, none, some (.long y3), none, some (.int x5)], [.int 64, .int x5], h)) rfl ?_
    refine en_ic_ge (by decide +kernel : u_at kl_290 94 = some (.if_icmp .ge 19, [113])) (fun b13 => ?_) (fun b13 => ?_)
    · replace hF := i_pos b13 hF
      refine en_segs [(113, .lload_n 3, [])] (by decide +kernel) (y := (114, [some (.ref a0), none, none, some (.long y3), none, some (.int x5)], [.long y3], h)) rfl ?_
      obtain rfl := Option.some.inj hF
      exact en_ret (by decide +kernel : u_at kl_290 114 = some (.lreturn, [])) rfl (hQ _ hW)
    · replace hF := i_neg b13 hF
      refine en_segs [(97, .lload_n 3, []), (98, .aload_n 0, [])] (by decide +kernel) (y := (99, [some (.ref a0), none, none, some (.long y3), none, some (.int x5)], [.ref a0, .long y3], h)) rfl ?_
      refine en_get (by decide +kernel : u_at kl_290 99 = some (.getfield 98, [12, 43])) hW ha0 (by decide) rfl ?_
      refine en_segs [(102, .iload 5, [])] (by decide +kernel) (y := (104, [some (.ref a0), none, none, some (.long y3), none, some (.int x5)], [.int x5, .ref (aP d 12 43 a0), .long y3], h)) rfl ?_
      obtain ⟨v14, hv14, hF⟩ := ob_some hF
      refine en_lald (by decide +kernel : u_at kl_290 104 = some (.laload, [])) hW ha0 rfl (by decide) hv14 ?_
      refine en_segs [(105, .ladd, []), (106, .lstore_n 3, []), (107, .iinc 5 1, []), (110, .goto (-20), [90])] (by decide +kernel) (y := (90, [some (.ref a0), none, none, some (.long (y3 + v14)), none, some (.int (x5 + 1))], [], h)) rfl ?_
      exact (ih _ _ _ _ _ _ hF).2.2 _ _ rfl rfl rfl rfl  _ hW _ hQ
def F_290 (c12 : Cl) (a0 : Nat) (p1 : Int32) (p2 : Int32) : Option (Int64 × Cl) :=
  F_221 c12 a0 p1 >>= fun r1 =>
  if r1 = 0 then
  some ((-1), c12)
  else
  F_224 c12 a0 p1 >>= fun r3 =>
  if r3 = 0 then
  some ((-1), c12)
  else
  F_170 ((p2 : Int32).toInt64) 0 12 >>= fun r5 =>
  if r5 = 0 then
  some ((-1), c12)
  else
  G_290 a0 0 [p1, p2, 0] [] [] c12
set_option maxRecDepth 100000 in
set_option maxHeartbeats 4000000 in
/-- HeadCountsModel.messages -/
theorem e_290 {D : Nat} {c0 c1 c2 c3 c4 c5 c6 c7 c8 c9 c10 c11 c12 c13 : Cl} {d : Ad} {h : UH} {a0 : Nat} {p1 : Int32} {p2 : Int32} {r : (Int64 × Cl)} (hD : 6 ≤ D) (hW : HW (mkw c0 c1 c2 c3 c4 c5 c6 c7 c8 c9 c10 c11 c12 c13) d h) (ha0 : aK d a0 = (0, 12, 0)) (hF : F_290 c12 a0 p1 p2 = some r) : ∃ q, EX D 290 [.ref a0, .int p1, .int p2] h q ∧ q.1 = some (.long r.1) ∧ HW (mkw c0 c1 c2 c3 c4 c5 c6 c7 c8 c9 c10 c11 r.2 c13) d q.2 := by
  obtain ⟨D, rfl⟩ : ∃ E, D = E + 1 := ⟨D - 1, by omega⟩
  unfold F_290 at hF
  refine ex_in (kl := kl_290) (nL := 6) rfl (by decide +kernel) (Nat.le_of_ble_eq_true rfl) ?_
  obtain ⟨QQ, hQQ⟩ : ∃ QQ : UR → Prop, QQ = (fun q : UR => q.1 = some (.long r.1) ∧ HW (mkw c0 c1 c2 c3 c4 c5 c6 c7 c8 c9 c10 c11 r.2 c13) d q.2) := ⟨_, rfl⟩
  rw [← hQQ]
  have hQ : ∀ h' : UH, HW (mkw c0 c1 c2 c3 c4 c5 c6 c7 c8 c9 c10 c11 r.2 c13) d h' → QQ (some (.long r.1), h') := fun h' p => by rw [hQQ]; exact ⟨rfl, p⟩
  clear hQQ
  show Ends (EX D) (u_at kl_290) (0, [some (.ref a0), some (.int p1), some (.int p2), none, none, none], [], h) QQ
  refine en_segs [(0, .aload_n 0, []), (1, .iload_n 1, [])] (by decide +kernel) (y := (2, [some (.ref a0), some (.int p1), some (.int p2), none, none, none], [.int p1, .ref a0], h)) rfl ?_
  obtain ⟨r1, hr1, hF⟩ := ob_some hF
  refine en_vi (r := []) (by decide +kernel : u_at kl_290 2 = some (.invokevirtual 367, [221, 1, 12])) hW ha0 rfl rfl (Nat.le_of_ble_eq_true rfl) (e_221 (D := D) (by omega) hW ha0 hr1) (fun h' q => ?_)
  subst q
  refine en_if_eq (by decide +kernel : u_at kl_290 5 = some (.ifCond .eq 23, [28])) (fun b2 => ?_) (fun b2 => ?_)
  · replace hF := i_pos b2 hF
    refine en_segs [(28, .ldc2_w 459, [18446744073709551615])] (by decide +kernel) (y := (31, [some (.ref a0), some (.int p1), some (.int p2), none, none, none], [.long (-1)], h)) rfl ?_
    obtain rfl := Option.some.inj hF
    exact en_ret (by decide +kernel : u_at kl_290 31 = some (.lreturn, [])) rfl (hQ _ hW)
  · replace hF := i_neg b2 hF
    refine en_segs [(8, .aload_n 0, []), (9, .iload_n 1, [])] (by decide +kernel) (y := (10, [some (.ref a0), some (.int p1), some (.int p2), none, none, none], [.int p1, .ref a0], h)) rfl ?_
    obtain ⟨r3, hr3, hF⟩ := ob_some hF
    refine en_vi (r := []) (by decide +kernel : u_at kl_290 10 = some (.invokevirtual 346, [224, 1, 12])) hW ha0 rfl rfl (Nat.le_of_ble_eq_true rfl) (e_224 (D := D) (by omega) hW ha0 hr3) (fun h' q => ?_)
    subst q
    refine en_if_eq (by decide +kernel : u_at kl_290 13 = some (.ifCond .eq 15, [28])) (fun b4 => ?_) (fun b4 => ?_)
    · replace hF := i_pos b4 hF
      refine en_segs [(28, .ldc2_w 459, [18446744073709551615])] (by decide +kernel) (y := (31, [some (.ref a0), some (.int p1), some (.int p2), none, none, none], [.long (-1)], h)) rfl ?_
      obtain rfl := Option.some.inj hF
      exact en_ret (by decide +kernel : u_at kl_290 31 = some (.lreturn, [])) rfl (hQ _ hW)
    · replace hF := i_neg b4 hF
      refine en_segs [(16, .iload_n 2, []), (17, .i2l, []), (18, .lconst 0, []), (19, .ldc2_w 523, [12])] (by decide +kernel) (y := (22, [some (.ref a0), some (.int p1), some (.int p2), none, none, none], [.long 12, .long 0, .long ((p2 : Int32).toInt64)], h)) rfl ?_
      obtain ⟨r5, hr5, hF⟩ := ob_some hF
      refine en_si (r := []) (by decide +kernel : u_at kl_290 22 = some (.invokestatic 161, [170, 3])) rfl rfl (Nat.le_of_ble_eq_true rfl) (e_170 (D := D) (by omega) hW hr5) (fun h' q => ?_)
      subst q
      refine en_if_ne (by decide +kernel : u_at kl_290 25 = some (.ifCond .ne 7, [32])) (fun b6 => ?_) (fun b6 => ?_)
      · replace hF := i_pos b6 hF
        refine en_segs [(28, .ldc2_w 459, [18446744073709551615])] (by decide +kernel) (y := (31, [some (.ref a0), some (.int p1), some (.int p2), none, none, none], [.long (-1)], h)) rfl ?_
        obtain rfl := Option.some.inj hF
        exact en_ret (by decide +kernel : u_at kl_290 31 = some (.lreturn, [])) rfl (hQ _ hW)
      · replace hF := i_neg b6 hF
        refine en_segs [(32, .iconst 0, []), (33, .istore_n 3, [])] (by decide +kernel) (y := (34, [some (.ref a0), some (.int p1), some (.int p2), some (.int 0), none, none], [], h)) rfl ?_
        exact (g_290 (D := D) hD ha0 _ _ _ _ _ _ hF).1 _ _ _ rfl rfl rfl rfl  _ hW _ hQ
