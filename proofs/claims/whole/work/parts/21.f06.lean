def G_212 (a0 : Nat) (lab : Nat) (xs : List Int32) (ys : List Int64) (zs : List Nat) (c12 : Cl) : Option (Int32 × Cl) := match lab, xs, ys, zs with
  | 0, [x1], [], [] =>
    if 7 ≤ x1 then
    ast c12 7 a0 94 7 (-1) >>= fun c12_3 =>
    F_210 c12_3 a0 >>= fun r4 =>
    if r4.1 = 0 then
    some ((-2) - (cI r4.2 9 a0), r4.2)
    else
    G_212 a0 1 [0] [] [] r4.2
    else
    ast c12 7 a0 94 x1 0 >>= fun c12_6 =>
    G_212 a0 0 [x1 + 1] [] [] c12_6
  | 1, [x1], [], [] =>
    if 221 ≤ x1 then
    G_212 a0 2 [0] [] [] c12
    else
    ast c12 20 a0 221 x1 0 >>= fun c12_8 =>
    G_212 a0 1 [x1 + 1] [] [] c12_8
  | 2, [x1], [], [] =>
    if 94 ≤ x1 then
    ald (cA c12 20 a0) 221 7 >>= fun v10 =>
    ((if 0 ≤ v10 then
    some c12
    else
    ast c12 20 a0 221 7 3 >>= fun c12_17 =>
    some c12_17) : Option (Cl)) >>= fun (t11 : Cl) =>
    some (sI t11 23 a0 0) >>= fun c12_13 =>
    F_227 c12_13 a0 >>= fun r14 =>
    ald (cA r14 20 a0) 221 2 >>= fun v15 =>
    some (v15, r14)
    else
    ald (cA c12 7 a0) 94 x1 >>= fun v18 =>
    ast c12 20 a0 221 x1 v18 >>= fun c12_19 =>
    G_212 a0 2 [x1 + 1] [] [] c12_19
  | _, _, _, _ => none
partial_fixpoint
set_option maxRecDepth 100000 in
set_option maxHeartbeats 4000000 in
theorem g_212 {D : Nat} (hD : 13 ≤ D + 1) {c0 c1 c2 c3 c4 c5 c6 c7 c8 c9 c10 c11 c13 : Cl} {d : Ad} {a0 : Nat} (ha0 : aK d a0 = (0, 12, 0)) : ∀ (lab : Nat) (xs : List Int32) (ys : List Int64) (zs : List Nat) (c12 : Cl) (r : (Int32 × Cl)), G_212 a0 lab xs ys zs c12 = some r →
    (∀ (x1 : Int32), lab = 0 → xs = [x1] → ys = [] → zs = [] → ∀ h : UH, HW (mkw c0 c1 c2 c3 c4 c5 c6 c7 c8 c9 c10 c11 c12 c13) d h → ∀ QQ : UR → Prop, (∀ h' : UH, HW (mkw c0 c1 c2 c3 c4 c5 c6 c7 c8 c9 c10 c11 r.2 c13) d h' → QQ (some (.int r.1), h')) → Ends (EX D) (u_at kl_212) (8, [some (.ref a0), some (.int x1)], [], h) QQ) ∧
    (∀ (x1 : Int32), lab = 1 → xs = [x1] → ys = [] → zs = [] → ∀ h : UH, HW (mkw c0 c1 c2 c3 c4 c5 c6 c7 c8 c9 c10 c11 c12 c13) d h → ∀ QQ : UR → Prop, (∀ h' : UH, HW (mkw c0 c1 c2 c3 c4 c5 c6 c7 c8 c9 c10 c11 r.2 c13) d h' → QQ (some (.int r.1), h')) → Ends (EX D) (u_at kl_212) (52, [some (.ref a0), some (.int x1)], [], h) QQ) ∧
    (∀ (x1 : Int32), lab = 2 → xs = [x1] → ys = [] → zs = [] → ∀ h : UH, HW (mkw c0 c1 c2 c3 c4 c5 c6 c7 c8 c9 c10 c11 c12 c13) d h → ∀ QQ : UR → Prop, (∀ h' : UH, HW (mkw c0 c1 c2 c3 c4 c5 c6 c7 c8 c9 c10 c11 r.2 c13) d h' → QQ (some (.int r.1), h')) → Ends (EX D) (u_at kl_212) (74, [some (.ref a0), some (.int x1)], [], h) QQ) := by
  refine G_212.partial_correctness _ (motive := fun lab xs ys zs c12 r =>
    (∀ (x1 : Int32), lab = 0 → xs = [x1] → ys = [] → zs = [] → ∀ h : UH, HW (mkw c0 c1 c2 c3 c4 c5 c6 c7 c8 c9 c10 c11 c12 c13) d h → ∀ QQ : UR → Prop, (∀ h' : UH, HW (mkw c0 c1 c2 c3 c4 c5 c6 c7 c8 c9 c10 c11 r.2 c13) d h' → QQ (some (.int r.1), h')) → Ends (EX D) (u_at kl_212) (8, [some (.ref a0), some (.int x1)], [], h) QQ) ∧
    (∀ (x1 : Int32), lab = 1 → xs = [x1] → ys = [] → zs = [] → ∀ h : UH, HW (mkw c0 c1 c2 c3 c4 c5 c6 c7 c8 c9 c10 c11 c12 c13) d h → ∀ QQ : UR → Prop, (∀ h' : UH, HW (mkw c0 c1 c2 c3 c4 c5 c6 c7 c8 c9 c10 c11 r.2 c13) d h' → QQ (some (.int r.1), h')) → Ends (EX D) (u_at kl_212) (52, [some (.ref a0), some (.int x1)], [], h) QQ) ∧
    (∀ (x1 : Int32), lab = 2 → xs = [x1] → ys = [] → zs = [] → ∀ h : UH, HW (mkw c0 c1 c2 c3 c4 c5 c6 c7 c8 c9 c10 c11 c12 c13) d h → ∀ QQ : UR → Prop, (∀ h' : UH, HW (mkw c0 c1 c2 c3 c4 c5 c6 c7 c8 c9 c10 c11 r.2 c13) d h' → QQ (some (.int r.1), h')) → Ends (EX D) (u_at kl_212) (74, [some (.ref a0), some (.int x1)], [], h) QQ)) ?_
  intro G ih lab xs ys zs c12 r hF
  refine ⟨?_, ?_, ?_⟩
  · intro x1 e1 e2 e3 e4 h hW QQ hQ
    subst e1 e2 e3 e4
    refine en_segs [(8, .iload_n 1, []), (9, .bipush 7, [])] (by decide +kernel) (y := (11, [some (.ref a0), some (.int x1)], [.int 7, .int x1], h)) rfl ?_
    refine en_ic_ge (by decide +kernel : u_at kl_212 11 = some (.if_icmp .ge 16, [27])) (fun b2 => ?_) (fun b2 => ?_)
    · replace hF := i_pos b2 hF
      refine en_segs [(27, .aload_n 0, [])] (by decide +kernel) (y := (28, [some (.ref a0), some (.int x1)], [.ref a0], h)) rfl ?_
      refine en_get (by decide +kernel : u_at kl_212 28 = some (.getfield 26, [12, 7])) hW ha0 (by decide) rfl ?_
      refine en_segs [(31, .bipush 7, []), (33, .iconst (-1), [])] (by decide +kernel) (y := (34, [some (.ref a0), some (.int x1)], [.int (-1), .int 7, .ref (aP d 12 7 a0)], h)) rfl ?_
      obtain ⟨c12_3, hc12_3, hF⟩ := ob_some hF
      refine en_iast (by decide +kernel : u_at kl_212 34 = some (.iastore, [])) hW ha0 rfl (by decide) hc12_3 (fun h hW => ?_)
      have hW : HW (mkw c0 c1 c2 c3 c4 c5 c6 c7 c8 c9 c10 c11 c12_3 c13) d h := hW
      refine en_segs [(35, .aload_n 0, [])] (by decide +kernel) (y := (36, [some (.ref a0), some (.int x1)], [.ref a0], h)) rfl ?_
      obtain ⟨r4, hr4, hF⟩ := ob_some hF
      refine en_vi (r := []) (by decide +kernel : u_at kl_212 36 = some (.invokevirtual 319, [210, 0, 12])) hW ha0 rfl rfl (Nat.le_of_ble_eq_true rfl) (e_210 (D := D) (by omega) hW ha0 hr4) (fun h hW => ?_)
      have hW : HW (mkw c0 c1 c2 c3 c4 c5 c6 c7 c8 c9 c10 c11 r4.2 c13) d h := hW
      refine en_if_ne (by decide +kernel : u_at kl_212 39 = some (.ifCond .ne 11, [50])) (fun b5 => ?_) (fun b5 => ?_)
      · replace hF := i_pos b5 hF
        refine en_segs [(42, .bipush (-2), []), (44, .aload_n 0, [])] (by decide +kernel) (y := (45, [some (.ref a0), some (.int x1)], [.ref a0, .int (-2)], h)) rfl ?_
        refine en_get (by decide +kernel : u_at kl_212 45 = some (.getfield 130, [12, 9])) hW ha0 (by decide) rfl ?_
        refine en_segs [(48, .isub, [])] (by decide +kernel) (y := (49, [some (.ref a0), some (.int x1)], [.int ((-2) - (cI r4.2 9 a0))], h)) rfl ?_
        obtain rfl := Option.some.inj hF
        exact en_ret (by decide +kernel : u_at kl_212 49 = some (.ireturn, [0])) rfl (hQ _ hW)
      · replace hF := i_neg b5 hF
        refine en_segs [(50, .iconst 0, []), (51, .istore_n 1, [])] (by decide +kernel) (y := (52, [some (.ref a0), some (.int 0)], [], h)) rfl ?_
        exact (ih _ _ _ _ _ _ hF).2.1 _ rfl rfl rfl rfl  _ hW _ hQ
    · replace hF := i_neg b2 hF
      refine en_segs [(14, .aload_n 0, [])] (by decide +kernel) (y := (15, [some (.ref a0), some (.int x1)], [.ref a0], h)) rfl ?_
      refine en_get (by decide +kernel : u_at kl_212 15 = some (.getfield 26, [12, 7])) hW ha0 (by decide) rfl ?_
      refine en_segs [(18, .iload_n 1, []), (19, .iconst 0, [])] (by decide +kernel) (y := (20, [some (.ref a0), some (.int x1)], [.int 0, .int x1, .ref (aP d 12 7 a0)], h)) rfl ?_
      obtain ⟨c12_6, hc12_6, hF⟩ := ob_some hF
      refine en_iast (by decide +kernel : u_at kl_212 20 = some (.iastore, [])) hW ha0 rfl (by decide) hc12_6 (fun h hW => ?_)
      have hW : HW (mkw c0 c1 c2 c3 c4 c5 c6 c7 c8 c9 c10 c11 c12_6 c13) d h := hW
      refine en_segs [(21, .iinc 1 1, []), (24, .goto (-16), [8])] (by decide +kernel) (y := (8, [some (.ref a0), some (.int (x1 + 1))], [], h)) rfl ?_
      exact (ih _ _ _ _ _ _ hF).1 _ rfl rfl rfl rfl  _ hW _ hQ
  · intro x1 e1 e2 e3 e4 h hW QQ hQ
    subst e1 e2 e3 e4
    refine en_segs [(52, .iload_n 1, []), (53, .sipush 221, [])] (by decide +kernel) (y := (56, [some (.ref a0), some (.int x1)], [.int 221, .int x1], h)) rfl ?_
    refine en_ic_ge (by decide +kernel : u_at kl_212 56 = some (.if_icmp .ge 16, [72])) (fun b7 => ?_) (fun b7 => ?_)
    · replace hF := i_pos b7 hF
      refine en_segs [(72, .iconst 0, []), (73, .istore_n 1, [])] (by decide +kernel) (y := (74, [some (.ref a0), some (.int 0)], [], h)) rfl ?_
      exact (ih _ _ _ _ _ _ hF).2.2 _ rfl rfl rfl rfl  _ hW _ hQ
    · replace hF := i_neg b7 hF
      refine en_segs [(59, .aload_n 0, [])] (by decide +kernel) (y := (60, [some (.ref a0), some (.int x1)], [.ref a0], h)) rfl ?_
      refine en_get (by decide +kernel : u_at kl_212 60 = some (.getfield 39, [12, 20])) hW ha0 (by decide) rfl ?_
      refine en_segs [(63, .iload_n 1, []), (64, .iconst 0, [])] (by decide +kernel) (y := (65, [some (.ref a0), some (.int x1)], [.int 0, .int x1, .ref (aP d 12 20 a0)], h)) rfl ?_
      obtain ⟨c12_8, hc12_8, hF⟩ := ob_some hF
      refine en_iast (by decide +kernel : u_at kl_212 65 = some (.iastore, [])) hW ha0 rfl (by decide) hc12_8 (fun h hW => ?_)
      have hW : HW (mkw c0 c1 c2 c3 c4 c5 c6 c7 c8 c9 c10 c11 c12_8 c13) d h := hW
      refine en_segs [(66, .iinc 1 1, []), (69, .goto (-17), [52])] (by decide +kernel) (y := (52, [some (.ref a0), some (.int (x1 + 1))], [], h)) rfl ?_
      exact (ih _ _ _ _ _ _ hF).2.1 _ rfl rfl rfl rfl  _ hW _ hQ
  · intro x1 e1 e2 e3 e4 h hW QQ hQ
    subst e1 e2 e3 e4
    refine en_segs [(74, .iload_n 1, []), (75, .bipush 94, [])] (by decide +kernel) (y := (77, [some (.ref a0), some (.int x1)], [.int 94, .int x1], h)) rfl ?_
    refine en_ic_ge (by decide +kernel : u_at kl_212 77 = some (.if_icmp .ge 21, [98])) (fun b9 => ?_) (fun b9 => ?_)
    · replace hF := i_pos b9 hF
      refine en_segs [(98, .aload_n 0, [])] (by decide +kernel) (y := (99, [some (.ref a0), some (.int x1)], [.ref a0], h)) rfl ?_
      refine en_get (by decide +kernel : u_at kl_212 99 = some (.getfield 39, [12, 20])) hW ha0 (by decide) rfl ?_
      refine en_segs [(102, .bipush 7, [])] (by decide +kernel) (y := (104, [some (.ref a0), some (.int x1)], [.int 7, .ref (aP d 12 20 a0)], h)) rfl ?_
      obtain ⟨v10, hv10, hF⟩ := ob_some hF
      refine en_iald (by decide +kernel : u_at kl_212 104 = some (.iaload, [])) hW ha0 rfl (by decide) hv10 ?_
      obtain ⟨t11, hX, hK⟩ := ob_some hF
      have j12 : ∀ h : UH, HW (mkw c0 c1 c2 c3 c4 c5 c6 c7 c8 c9 c10 c11 t11 c13) d h → Ends (EX D) (u_at kl_212) (116, [some (.ref a0), some (.int x1)], [], h) QQ := by
        intro h hW
        have hF := hK
        refine en_segs [(116, .aload_n 0, []), (117, .iconst 0, [])] (by decide +kernel) (y := (118, [some (.ref a0), some (.int x1)], [.int 0, .ref a0], h)) rfl ?_
        obtain ⟨c12_13, hc12_13, hF⟩ := ob_some hF
        refine en_putI (by decide +kernel : u_at kl_212 118 = some (.putfield 322, [12, 23, 0])) hW ha0 rfl (by decide) rfl (fun h hW => ?_)
        have hW : HW (mkw c0 c1 c2 c3 c4 c5 c6 c7 c8 c9 c10 c11 c12_13 c13) d h := by rw [← Option.some.inj hc12_13]; exact hW
        refine en_segs [(121, .aload_n 0, [])] (by decide +kernel) (y := (122, [some (.ref a0), some (.int x1)], [.ref a0], h)) rfl ?_
        obtain ⟨r14, hr14, hF⟩ := ob_some hF
        refine en_vv (r := []) (by decide +kernel : u_at kl_212 122 = some (.invokevirtual 325, [227, 0, 12])) hW ha0 rfl rfl (Nat.le_of_ble_eq_true rfl) (e_227 (D := D) (by omega) hW ha0 hr14) (fun h hW => ?_)
        have hW : HW (mkw c0 c1 c2 c3 c4 c5 c6 c7 c8 c9 c10 c11 r14 c13) d h := hW
        refine en_segs [(125, .aload_n 0, [])] (by decide +kernel) (y := (126, [some (.ref a0), some (.int x1)], [.ref a0], h)) rfl ?_
        refine en_get (by decide +kernel : u_at kl_212 126 = some (.getfield 39, [12, 20])) hW ha0 (by decide) rfl ?_
        refine en_segs [(129, .iconst 2, [])] (by decide +kernel) (y := (130, [some (.ref a0), some (.int x1)], [.int 2, .ref (aP d 12 20 a0)], h)) rfl ?_
        obtain ⟨v15, hv15, hF⟩ := ob_some hF
        refine en_iald (by decide +kernel : u_at kl_212 130 = some (.iaload, [])) hW ha0 rfl (by decide) hv15 ?_
        obtain rfl := Option.some.inj hF
        exact en_ret (by decide +kernel : u_at kl_212 131 = some (.ireturn, [0])) rfl (hQ _ hW)
      have hF := hX
      refine en_if_ge (by decide +kernel : u_at kl_212 105 = some (.ifCond .ge 11, [116])) (fun b16 => ?_) (fun b16 => ?_)
      · replace hF := i_pos b16 hF
        obtain rfl := Option.some.inj hF
        exact j12 _ hW
      · replace hF := i_neg b16 hF
        refine en_segs [(108, .aload_n 0, [])] (by decide +kernel) (y := (109, [some (.ref a0), some (.int x1)], [.ref a0], h)) rfl ?_
        refine en_get (by decide +kernel : u_at kl_212 109 = some (.getfield 39, [12, 20])) hW ha0 (by decide) rfl ?_
        refine en_segs [(112, .bipush 7, []), (114, .iconst 3, [])] (by decide +kernel) (y := (115, [some (.ref a0), some (.int x1)], [.int 3, .int 7, .ref (aP d 12 20 a0)], h)) rfl ?_
        obtain ⟨c12_17, hc12_17, hF⟩ := ob_some hF
        refine en_iast (by decide +kernel : u_at kl_212 115 = some (.iastore, [])) hW ha0 rfl (by decide) hc12_17 (fun h hW => ?_)
        have hW : HW (mkw c0 c1 c2 c3 c4 c5 c6 c7 c8 c9 c10 c11 c12_17 c13) d h := hW
        obtain rfl := Option.some.inj hF
        exact j12 _ hW
    · replace hF := i_neg b9 hF
      refine en_segs [(80, .aload_n 0, [])] (by decide +kernel) (y := (81, [some (.ref a0), some (.int x1)], [.ref a0], h)) rfl ?_
      refine en_get (by decide +kernel : u_at kl_212 81 = some (.getfield 39, [12, 20])) hW ha0 (by decide) rfl ?_
      refine en_segs [(84, .iload_n 1, []), (85, .aload_n 0, [])] (by decide +kernel) (y := (86, [some (.ref a0), some (.int x1)], [.ref a0, .int x1, .ref (aP d 12 20 a0)], h)) rfl ?_
      refine en_get (by decide +kernel : u_at kl_212 86 = some (.getfield 26, [12, 7])) hW ha0 (by decide) rfl ?_
      refine en_segs [(89, .iload_n 1, [])] (by decide +kernel) (y := (90, [some (.ref a0), some (.int x1)], [.int x1, .ref (aP d 12 7 a0), .int x1, .ref (aP d 12 20 a0)], h)) rfl ?_
      obtain ⟨v18, hv18, hF⟩ := ob_some hF
      refine en_iald (by decide +kernel : u_at kl_212 90 = some (.iaload, [])) hW ha0 rfl (by decide) hv18 ?_
      obtain ⟨c12_19, hc12_19, hF⟩ := ob_some hF
      refine en_iast (by decide +kernel : u_at kl_212 91 = some (.iastore, [])) hW ha0 rfl (by decide) hc12_19 (fun h hW => ?_)
      have hW : HW (mkw c0 c1 c2 c3 c4 c5 c6 c7 c8 c9 c10 c11 c12_19 c13) d h := hW
      refine en_segs [(92, .iinc 1 1, []), (95, .goto (-21), [74])] (by decide +kernel) (y := (74, [some (.ref a0), some (.int (x1 + 1))], [], h)) rfl ?_
      exact (ih _ _ _ _ _ _ hF).2.2 _ rfl rfl rfl rfl  _ hW _ hQ
def F_212 (c12 : Cl) (a0 : Nat) : Option (Int32 × Cl) :=
  some (sI c12 11 a0 6) >>= fun c12_1 =>
  G_212 a0 0 [0] [] [] c12_1
set_option maxRecDepth 100000 in
set_option maxHeartbeats 4000000 in
/-- HeadCountsModel.house -/
theorem e_212 {D : Nat} {c0 c1 c2 c3 c4 c5 c6 c7 c8 c9 c10 c11 c12 c13 : Cl} {d : Ad} {h : UH} {a0 : Nat} {r : (Int32 × Cl)} (hD : 13 ≤ D) (hW : HW (mkw c0 c1 c2 c3 c4 c5 c6 c7 c8 c9 c10 c11 c12 c13) d h) (ha0 : aK d a0 = (0, 12, 0)) (hF : F_212 c12 a0 = some r) : ∃ q, EX D 212 [.ref a0] h q ∧ q.1 = some (.int r.1) ∧ HW (mkw c0 c1 c2 c3 c4 c5 c6 c7 c8 c9 c10 c11 r.2 c13) d q.2 := by
  obtain ⟨D, rfl⟩ : ∃ E, D = E + 1 := ⟨D - 1, by omega⟩
  unfold F_212 at hF
  refine ex_in (kl := kl_212) (nL := 2) rfl (by decide +kernel) (Nat.le_of_ble_eq_true rfl) ?_
  obtain ⟨QQ, hQQ⟩ : ∃ QQ : UR → Prop, QQ = (fun q : UR => q.1 = some (.int r.1) ∧ HW (mkw c0 c1 c2 c3 c4 c5 c6 c7 c8 c9 c10 c11 r.2 c13) d q.2) := ⟨_, rfl⟩
  rw [← hQQ]
  have hQ : ∀ h' : UH, HW (mkw c0 c1 c2 c3 c4 c5 c6 c7 c8 c9 c10 c11 r.2 c13) d h' → QQ (some (.int r.1), h') := fun h' p => by rw [hQQ]; exact ⟨rfl, p⟩
  clear hQQ
  show Ends (EX D) (u_at kl_212) (0, [some (.ref a0), none], [], h) QQ
  refine en_segs [(0, .aload_n 0, []), (1, .bipush 6, [])] (by decide +kernel) (y := (3, [some (.ref a0), none], [.int 6, .ref a0], h)) rfl ?_
  obtain ⟨c12_1, hc12_1, hF⟩ := ob_some hF
  refine en_putI (by decide +kernel : u_at kl_212 3 = some (.putfield 189, [12, 11, 0])) hW ha0 rfl (by decide) rfl (fun h hW => ?_)
  have hW : HW (mkw c0 c1 c2 c3 c4 c5 c6 c7 c8 c9 c10 c11 c12_1 c13) d h := by rw [← Option.some.inj hc12_1]; exact hW
  refine en_segs [(6, .iconst 0, []), (7, .istore_n 1, [])] (by decide +kernel) (y := (8, [some (.ref a0), some (.int 0)], [], h)) rfl ?_
  exact (g_212 (D := D) hD ha0 _ _ _ _ _ _ hF).1 _ rfl rfl rfl rfl  _ hW _ hQ
def F_213 (c12 : Cl) (a0 : Nat) (p1 : Int32) : Option Int32 :=
  ((if p1 < 0 then
  some 0
  else
  if (cI c12 2 a0) ≤ p1 then
  some 0
  else
  some 1) : Option (Int32)) >>= fun (t1 : Int32) =>
  zb t1 >>= fun z3 => some z3
set_option maxRecDepth 100000 in
set_option maxHeartbeats 4000000 in
/-- HeadCountsModel.isRule -/
theorem e_213 {D : Nat} {c0 c1 c2 c3 c4 c5 c6 c7 c8 c9 c10 c11 c12 c13 : Cl} {d : Ad} {h : UH} {a0 : Nat} {p1 : Int32} {r : Int32} (hD : 1 ≤ D) (hW : HW (mkw c0 c1 c2 c3 c4 c5 c6 c7 c8 c9 c10 c11 c12 c13) d h) (ha0 : aK d a0 = (0, 12, 0)) (hF : F_213 c12 a0 p1 = some r) : ∃ q, EX D 213 [.ref a0, .int p1] h q ∧ q.1 = some (.int r) ∧ h = q.2 := by
  obtain ⟨D, rfl⟩ : ∃ E, D = E + 1 := ⟨D - 1, by omega⟩
  unfold F_213 at hF
  refine ex_in (kl := kl_213) (nL := 2) rfl (by decide +kernel) (Nat.le_of_ble_eq_true rfl) ?_
  obtain ⟨QQ, hQQ⟩ : ∃ QQ : UR → Prop, QQ = (fun q : UR => q.1 = some (.int r) ∧ h = q.2) := ⟨_, rfl⟩
  rw [← hQQ]
  have hQ : QQ (some (.int r), h) := by rw [hQQ]; exact ⟨rfl, rfl⟩
  clear hQQ
  show Ends (EX D) (u_at kl_213) (0, [some (.ref a0), some (.int p1)], [], h) QQ
  refine en_segs [(0, .iload_n 1, [])] (by decide +kernel) (y := (1, [some (.ref a0), some (.int p1)], [.int p1], h)) rfl ?_
  obtain ⟨t1, hX, hK⟩ := ob_some hF
  have j2 : Ends (EX D) (u_at kl_213) (17, [some (.ref a0), some (.int p1)], [.int t1], h) QQ := by
    have hF := hK
    obtain ⟨z3, hz3, hF⟩ := ob_some hF
    obtain rfl := Option.some.inj hF
    exact en_retZ (by decide +kernel : u_at kl_213 17 = some (.ireturn, [1])) hz3 (hQ)
  have hF := hX
  refine en_if_lt (by decide +kernel : u_at kl_213 1 = some (.ifCond .lt 15, [16])) (fun b4 => ?_) (fun b4 => ?_)
  · replace hF := i_pos b4 hF
    refine en_segs [(16, .iconst 0, [])] (by decide +kernel) (y := (17, [some (.ref a0), some (.int p1)], [.int 0], h)) rfl ?_
    obtain rfl := Option.some.inj hF
    exact j2
  · replace hF := i_neg b4 hF
    refine en_segs [(4, .iload_n 1, []), (5, .aload_n 0, [])] (by decide +kernel) (y := (6, [some (.ref a0), some (.int p1)], [.ref a0, .int p1], h)) rfl ?_
    refine en_get (by decide +kernel : u_at kl_213 6 = some (.getfield 316, [12, 2])) hW ha0 (by decide) rfl ?_
    refine en_ic_ge (by decide +kernel : u_at kl_213 9 = some (.if_icmp .ge 7, [16])) (fun b5 => ?_) (fun b5 => ?_)
    · replace hF := i_pos b5 hF
      refine en_segs [(16, .iconst 0, [])] (by decide +kernel) (y := (17, [some (.ref a0), some (.int p1)], [.int 0], h)) rfl ?_
      obtain rfl := Option.some.inj hF
      exact j2
    · replace hF := i_neg b5 hF
      refine en_segs [(12, .iconst 1, []), (13, .goto 4, [17])] (by decide +kernel) (y := (17, [some (.ref a0), some (.int p1)], [.int 1], h)) rfl ?_
      obtain rfl := Option.some.inj hF
      exact j2
def F_214 (c12 : Cl) (a0 : Nat) (p1 : Int64) : Option Cl :=
  stl c12 17 a0 64 (cI c12 18 a0) p1 >>= fun c12_1 =>
  some (sI c12_1 18 a0 ((cI c12_1 18 a0) + 1)) >>= fun c12_2 =>
  some c12_2
set_option maxRecDepth 100000 in
set_option maxHeartbeats 4000000 in
/-- HeadCountsModel.push -/
theorem e_214 {D : Nat} {c0 c1 c2 c3 c4 c5 c6 c7 c8 c9 c10 c11 c12 c13 : Cl} {d : Ad} {h : UH} {a0 : Nat} {p1 : Int64} {r : Cl} (hD : 1 ≤ D) (hW : HW (mkw c0 c1 c2 c3 c4 c5 c6 c7 c8 c9 c10 c11 c12 c13) d h) (ha0 : aK d a0 = (0, 12, 0)) (hF : F_214 c12 a0 p1 = some r) : ∃ q, EX D 214 [.ref a0, .long p1] h q ∧ q.1 = none ∧ HW (mkw c0 c1 c2 c3 c4 c5 c6 c7 c8 c9 c10 c11 r c13) d q.2 := by
  obtain ⟨D, rfl⟩ : ∃ E, D = E + 1 := ⟨D - 1, by omega⟩
  unfold F_214 at hF
  refine ex_in (kl := kl_214) (nL := 3) rfl (by decide +kernel) (Nat.le_of_ble_eq_true rfl) ?_
  obtain ⟨QQ, hQQ⟩ : ∃ QQ : UR → Prop, QQ = (fun q : UR => q.1 = none ∧ HW (mkw c0 c1 c2 c3 c4 c5 c6 c7 c8 c9 c10 c11 r c13) d q.2) := ⟨_, rfl⟩
  rw [← hQQ]
  have hQ : ∀ h' : UH, HW (mkw c0 c1 c2 c3 c4 c5 c6 c7 c8 c9 c10 c11 r c13) d h' → QQ (none, h') := fun h' p => by rw [hQQ]; exact ⟨rfl, p⟩
  clear hQQ
  show Ends (EX D) (u_at kl_214) (0, [some (.ref a0), some (.long p1), none], [], h) QQ
  refine en_segs [(0, .aload_n 0, [])] (by decide +kernel) (y := (1, [some (.ref a0), some (.long p1), none], [.ref a0], h)) rfl ?_
  refine en_get (by decide +kernel : u_at kl_214 1 = some (.getfield 32, [12, 17])) hW ha0 (by decide) rfl ?_
  refine en_segs [(4, .aload_n 0, [])] (by decide +kernel) (y := (5, [some (.ref a0), some (.long p1), none], [.ref a0, .ref (aP d 12 17 a0)], h)) rfl ?_
  refine en_get (by decide +kernel : u_at kl_214 5 = some (.getfield 328, [12, 18])) hW ha0 (by decide) rfl ?_
  refine en_segs [(8, .lload_n 1, [])] (by decide +kernel) (y := (9, [some (.ref a0), some (.long p1), none], [.long p1, .int (cI c12 18 a0), .ref (aP d 12 17 a0)], h)) rfl ?_
  obtain ⟨c12_1, hc12_1, hF⟩ := ob_some hF
  refine en_last (by decide +kernel : u_at kl_214 9 = some (.lastore, [])) hW ha0 rfl (by decide) hc12_1 (fun h hW => ?_)
  have hW : HW (mkw c0 c1 c2 c3 c4 c5 c6 c7 c8 c9 c10 c11 c12_1 c13) d h := hW
  refine en_segs [(10, .aload_n 0, []), (11, .dup, [])] (by decide +kernel) (y := (12, [some (.ref a0), some (.long p1), none], [.ref a0, .ref a0], h)) rfl ?_
  refine en_get (by decide +kernel : u_at kl_214 12 = some (.getfield 328, [12, 18])) hW ha0 (by decide) rfl ?_
  refine en_segs [(15, .iconst 1, []), (16, .iadd, [])] (by decide +kernel) (y := (17, [some (.ref a0), some (.long p1), none], [.int ((cI c12_1 18 a0) + 1), .ref a0], h)) rfl ?_
  obtain ⟨c12_2, hc12_2, hF⟩ := ob_some hF
  refine en_putI (by decide +kernel : u_at kl_214 17 = some (.putfield 328, [12, 18, 0])) hW ha0 rfl (by decide) rfl (fun h hW => ?_)
  have hW : HW (mkw c0 c1 c2 c3 c4 c5 c6 c7 c8 c9 c10 c11 c12_2 c13) d h := by rw [← Option.some.inj hc12_2]; exact hW
  obtain rfl := Option.some.inj hF
  exact en_ret (by decide +kernel : u_at kl_214 20 = some (.return_, [])) rfl (hQ _ hW)
def F_215 (c12 : Cl) (a0 : Nat) : Option (Int64 × Cl) :=
  some (sI c12 18 a0 ((cI c12 18 a0) - 1)) >>= fun c12_1 =>
  ldl (cB c12_1 17 a0) 64 (cI c12_1 18 a0) >>= fun v2 =>
  some (v2, c12_1)
set_option maxRecDepth 100000 in
set_option maxHeartbeats 4000000 in
/-- HeadCountsModel.pop -/
theorem e_215 {D : Nat} {c0 c1 c2 c3 c4 c5 c6 c7 c8 c9 c10 c11 c12 c13 : Cl} {d : Ad} {h : UH} {a0 : Nat} {r : (Int64 × Cl)} (hD : 1 ≤ D) (hW : HW (mkw c0 c1 c2 c3 c4 c5 c6 c7 c8 c9 c10 c11 c12 c13) d h) (ha0 : aK d a0 = (0, 12, 0)) (hF : F_215 c12 a0 = some r) : ∃ q, EX D 215 [.ref a0] h q ∧ q.1 = some (.long r.1) ∧ HW (mkw c0 c1 c2 c3 c4 c5 c6 c7 c8 c9 c10 c11 r.2 c13) d q.2 := by
  obtain ⟨D, rfl⟩ : ∃ E, D = E + 1 := ⟨D - 1, by omega⟩
  unfold F_215 at hF
  refine ex_in (kl := kl_215) (nL := 1) rfl (by decide +kernel) (Nat.le_of_ble_eq_true rfl) ?_
  obtain ⟨QQ, hQQ⟩ : ∃ QQ : UR → Prop, QQ = (fun q : UR => q.1 = some (.long r.1) ∧ HW (mkw c0 c1 c2 c3 c4 c5 c6 c7 c8 c9 c10 c11 r.2 c13) d q.2) := ⟨_, rfl⟩
  rw [← hQQ]
  have hQ : ∀ h' : UH, HW (mkw c0 c1 c2 c3 c4 c5 c6 c7 c8 c9 c10 c11 r.2 c13) d h' → QQ (some (.long r.1), h') := fun h' p => by rw [hQQ]; exact ⟨rfl, p⟩
  clear hQQ
  show Ends (EX D) (u_at kl_215) (0, [some (.ref a0)], [], h) QQ
  refine en_segs [(0, .aload_n 0, []), (1, .dup, [])] (by decide +kernel) (y := (2, [some (.ref a0)], [.ref a0, .ref a0], h)) rfl ?_
  refine en_get (by decide +kernel : u_at kl_215 2 = some (.getfield 328, [12, 18])) hW ha0 (by decide) rfl ?_
  refine en_segs [(5, .iconst 1, []), (6, .isub, [])] (by decide +kernel) (y := (7, [some (.ref a0)], [.int ((cI c12 18 a0) - 1), .ref a0], h)) rfl ?_
  obtain ⟨c12_1, hc12_1, hF⟩ := ob_some hF
  refine en_putI (by decide +kernel : u_at kl_215 7 = some (.putfield 328, [12, 18, 0])) hW ha0 rfl (by decide) rfl (fun h hW => ?_)
  have hW : HW (mkw c0 c1 c2 c3 c4 c5 c6 c7 c8 c9 c10 c11 c12_1 c13) d h := by rw [← Option.some.inj hc12_1]; exact hW
  refine en_segs [(10, .aload_n 0, [])] (by decide +kernel) (y := (11, [some (.ref a0)], [.ref a0], h)) rfl ?_
  refine en_get (by decide +kernel : u_at kl_215 11 = some (.getfield 32, [12, 17])) hW ha0 (by decide) rfl ?_
  refine en_segs [(14, .aload_n 0, [])] (by decide +kernel) (y := (15, [some (.ref a0)], [.ref a0, .ref (aP d 12 17 a0)], h)) rfl ?_
  refine en_get (by decide +kernel : u_at kl_215 15 = some (.getfield 328, [12, 18])) hW ha0 (by decide) rfl ?_
  obtain ⟨v2, hv2, hF⟩ := ob_some hF
  refine en_lald (by decide +kernel : u_at kl_215 18 = some (.laload, [])) hW ha0 rfl (by decide) hv2 ?_
  obtain rfl := Option.some.inj hF
  exact en_ret (by decide +kernel : u_at kl_215 19 = some (.lreturn, [])) rfl (hQ _ hW)
def F_216 (p1 : Int32) (p2 : Int64) (p3 : Int64) : Option Int64 :=
  if p1 = 2 then
  some (p2 + p3)
  else
  if p1 = 3 then
  some (p2 - p3)
  else
  if p1 = 4 then
  some (p2 * p3)
  else
  if p1 = 5 then
  ((if (lg_cmp p3 0) = 0 then
  some 0
  else
  ldv p2 p3 >>= fun v8 =>
  some v8) : Option (Int64)) >>= fun (t5 : Int64) =>
  some t5
  else
  if p1 = 6 then
  ((if 0 ≤ (lg_cmp p2 p3) then
  some 0
  else
  some 1) : Option (Int64)) >>= fun (t10 : Int64) =>
  some t10
  else
  if p1 = 7 then
  ((if 0 < (lg_cmp p2 p3) then
  some 0
  else
  some 1) : Option (Int64)) >>= fun (t14 : Int64) =>
  some t14
  else
  if p1 = 8 then
  ((if (lg_cmp p2 p3) = 0 then
  some 1
  else
  some 0) : Option (Int64)) >>= fun (t18 : Int64) =>
  some t18
  else
  if p1 = 9 then
  ((if (lg_cmp p2 p3) < 0 then
  some 0
  else
  some 1) : Option (Int64)) >>= fun (t22 : Int64) =>
  some t22
  else
  if p1 = 10 then
  ((if (lg_cmp p2 p3) ≤ 0 then
  some 0
  else
  some 1) : Option (Int64)) >>= fun (t26 : Int64) =>
  some t26
  else
  if p1 = 11 then
  some (p2 ||| p3)
  else
  if p1 = 12 then
  some (p2 &&& p3)
  else
  some (p2 ||| p3)
set_option maxRecDepth 100000 in
set_option maxHeartbeats 4000000 in
/-- HeadCountsModel.one -/
theorem e_216 {D : Nat} {c0 c1 c2 c3 c4 c5 c6 c7 c8 c9 c10 c11 c12 c13 : Cl} {d : Ad} {h : UH} {p1 : Int32} {p2 : Int64} {p3 : Int64} {r : Int64} (hD : 1 ≤ D) (hW : HW (mkw c0 c1 c2 c3 c4 c5 c6 c7 c8 c9 c10 c11 c12 c13) d h) (hF : F_216 p1 p2 p3 = some r) : ∃ q, EX D 216 [.int p1, .long p2, .long p3] h q ∧ q.1 = some (.long r) ∧ h = q.2 := by
  obtain ⟨D, rfl⟩ : ∃ E, D = E + 1 := ⟨D - 1, by omega⟩
  unfold F_216 at hF
  refine ex_in (kl := kl_216) (nL := 5) rfl (by decide +kernel) (Nat.le_of_ble_eq_true rfl) ?_
  obtain ⟨QQ, hQQ⟩ : ∃ QQ : UR → Prop, QQ = (fun q : UR => q.1 = some (.long r) ∧ h = q.2) := ⟨_, rfl⟩
  rw [← hQQ]
  have hQ : QQ (some (.long r), h) := by rw [hQQ]; exact ⟨rfl, rfl⟩
  clear hQQ
  show Ends (EX D) (u_at kl_216) (0, [some (.int p1), some (.long p2), none, some (.long p3), none], [], h) QQ
  refine en_segs [(0, .iload_n 0, [])] (by decide +kernel) (y := (1, [some (.int p1), some (.long p2), none, some (.long p3), none], [.int p1], h)) rfl ?_
  by_cases b1 : p1 = 2
  · replace hF := i_pos b1 hF
    refine en_tsC (by decide +kernel : u_at kl_216 1 = some (.tableswitch 149 2 12 #[59, 63, 67, 71, 85, 97, 109, 121, 133, 149, 145], [150, 60, 64, 68, 72, 86, 98, 110, 122, 134, 150, 146])) (by rw [b1]; decide) (u := 60) (by rw [b1]; rfl) ?_
    refine en_segs [(60, .lload_n 1, []), (61, .lload_n 3, []), (62, .ladd, [])] (by decide +kernel) (y := (63, [some (.int p1), some (.long p2), none, some (.long p3), none], [.long (p2 + p3)], h)) rfl ?_
    obtain rfl := Option.some.inj hF
    exact en_ret (by decide +kernel : u_at kl_216 63 = some (.lreturn, [])) rfl (hQ)
  · replace hF := i_neg b1 hF
    by_cases b2 : p1 = 3
    · replace hF := i_pos b2 hF
      refine en_tsC (by decide +kernel : u_at kl_216 1 = some (.tableswitch 149 2 12 #[59, 63, 67, 71, 85, 97, 109, 121, 133, 149, 145], [150, 60, 64, 68, 72, 86, 98, 110, 122, 134, 150, 146])) (by rw [b2]; decide) (u := 64) (by rw [b2]; rfl) ?_
      refine en_segs [(64, .lload_n 1, []), (65, .lload_n 3, []), (66, .lsub, [])] (by decide +kernel) (y := (67, [some (.int p1), some (.long p2), none, some (.long p3), none], [.long (p2 - p3)], h)) rfl ?_
      obtain rfl := Option.some.inj hF
      exact en_ret (by decide +kernel : u_at kl_216 67 = some (.lreturn, [])) rfl (hQ)
    · replace hF := i_neg b2 hF
      by_cases b3 : p1 = 4
      · replace hF := i_pos b3 hF
        refine en_tsC (by decide +kernel : u_at kl_216 1 = some (.tableswitch 149 2 12 #[59, 63, 67, 71, 85, 97, 109, 121, 133, 149, 145], [150, 60, 64, 68, 72, 86, 98, 110, 122, 134, 150, 146])) (by rw [b3]; decide) (u := 68) (by rw [b3]; rfl) ?_
        refine en_segs [(68, .lload_n 1, []), (69, .lload_n 3, []), (70, .lmul, [])] (by decide +kernel) (y := (71, [some (.int p1), some (.long p2), none, some (.long p3), none], [.long (p2 * p3)], h)) rfl ?_
        obtain rfl := Option.some.inj hF
        exact en_ret (by decide +kernel : u_at kl_216 71 = some (.lreturn, [])) rfl (hQ)
      · replace hF := i_neg b3 hF
        by_cases b4 : p1 = 5
        · replace hF := i_pos b4 hF
          refine en_tsC (by decide +kernel : u_at kl_216 1 = some (.tableswitch 149 2 12 #[59, 63, 67, 71, 85, 97, 109, 121, 133, 149, 145], [150, 60, 64, 68, 72, 86, 98, 110, 122, 134, 150, 146])) (by rw [b4]; decide) (u := 72) (by rw [b4]; rfl) ?_
          refine en_segs [(72, .lload_n 3, []), (73, .lconst 0, []), (74, .lcmp, [])] (by decide +kernel) (y := (75, [some (.int p1), some (.long p2), none, some (.long p3), none], [.int (lg_cmp p3 0)], h)) rfl ?_
          obtain ⟨t5, hX, hK⟩ := ob_some hF
          have j6 : Ends (EX D) (u_at kl_216) (85, [some (.int p1), some (.long p2), none, some (.long p3), none], [.long t5], h) QQ := by
            have hF := hK
            obtain rfl := Option.some.inj hF
            exact en_ret (by decide +kernel : u_at kl_216 85 = some (.lreturn, [])) rfl (hQ)
          have hF := hX
          refine en_if_ne (by decide +kernel : u_at kl_216 75 = some (.ifCond .ne 7, [82])) (fun b7 => ?_) (fun b7 => ?_)
          · replace hF := i_pos b7 hF
            refine en_segs [(78, .lconst 0, []), (79, .goto 6, [85])] (by decide +kernel) (y := (85, [some (.int p1), some (.long p2), none, some (.long p3), none], [.long 0], h)) rfl ?_
            obtain rfl := Option.some.inj hF
            exact j6
          · replace hF := i_neg b7 hF
            refine en_segs [(82, .lload_n 1, []), (83, .lload_n 3, [])] (by decide +kernel) (y := (84, [some (.int p1), some (.long p2), none, some (.long p3), none], [.long p3, .long p2], h)) rfl ?_
            obtain ⟨v8, hv8, hF⟩ := ob_some hF
            refine en_ldiv (by decide +kernel : u_at kl_216 84 = some (.ldiv, [])) hv8 ?_
            obtain rfl := Option.some.inj hF
            exact j6
        · replace hF := i_neg b4 hF
          by_cases b9 : p1 = 6
          · replace hF := i_pos b9 hF
            refine en_tsC (by decide +kernel : u_at kl_216 1 = some (.tableswitch 149 2 12 #[59, 63, 67, 71, 85, 97, 109, 121, 133, 149, 145], [150, 60, 64, 68, 72, 86, 98, 110, 122, 134, 150, 146])) (by rw [b9]; decide) (u := 86) (by rw [b9]; rfl) ?_
            refine en_segs [(86, .lload_n 1, []), (87, .lload_n 3, []), (88, .lcmp, [])] (by decide +kernel) (y := (89, [some (.int p1), some (.long p2), none, some (.long p3), none], [.int (lg_cmp p2 p3)], h)) rfl ?_
            obtain ⟨t10, hX, hK⟩ := ob_some hF
            have j11 : Ends (EX D) (u_at kl_216) (97, [some (.int p1), some (.long p2), none, some (.long p3), none], [.long t10], h) QQ := by
              have hF := hK
              obtain rfl := Option.some.inj hF
              exact en_ret (by decide +kernel : u_at kl_216 97 = some (.lreturn, [])) rfl (hQ)
            have hF := hX
            refine en_if_ge (by decide +kernel : u_at kl_216 89 = some (.ifCond .ge 7, [96])) (fun b12 => ?_) (fun b12 => ?_)
            · replace hF := i_pos b12 hF
              refine en_segs [(96, .lconst 0, [])] (by decide +kernel) (y := (97, [some (.int p1), some (.long p2), none, some (.long p3), none], [.long 0], h)) rfl ?_
              obtain rfl := Option.some.inj hF
              exact j11
            · replace hF := i_neg b12 hF
              refine en_segs [(92, .lconst 1, []), (93, .goto 4, [97])] (by decide +kernel) (y := (97, [some (.int p1), some (.long p2), none, some (.long p3), none], [.long 1], h)) rfl ?_
              obtain rfl := Option.some.inj hF
              exact j11
          · replace hF := i_neg b9 hF
            by_cases b13 : p1 = 7
            · replace hF := i_pos b13 hF
              refine en_tsC (by decide +kernel : u_at kl_216 1 = some (.tableswitch 149 2 12 #[59, 63, 67, 71, 85, 97, 109, 121, 133, 149, 145], [150, 60, 64, 68, 72, 86, 98, 110, 122, 134, 150, 146])) (by rw [b13]; decide) (u := 98) (by rw [b13]; rfl) ?_
              refine en_segs [(98, .lload_n 1, []), (99, .lload_n 3, []), (100, .lcmp, [])] (by decide +kernel) (y := (101, [some (.int p1), some (.long p2), none, some (.long p3), none], [.int (lg_cmp p2 p3)], h)) rfl ?_
              obtain ⟨t14, hX, hK⟩ := ob_some hF
              have j15 : Ends (EX D) (u_at kl_216) (109, [some (.int p1), some (.long p2), none, some (.long p3), none], [.long t14], h) QQ := by
                have hF := hK
                obtain rfl := Option.some.inj hF
                exact en_ret (by decide +kernel : u_at kl_216 109 = some (.lreturn, [])) rfl (hQ)
              have hF := hX
              refine en_if_gt (by decide +kernel : u_at kl_216 101 = some (.ifCond .gt 7, [108])) (fun b16 => ?_) (fun b16 => ?_)
              · replace hF := i_pos b16 hF
                refine en_segs [(108, .lconst 0, [])] (by decide +kernel) (y := (109, [some (.int p1), some (.long p2), none, some (.long p3), none], [.long 0], h)) rfl ?_
                obtain rfl := Option.some.inj hF
                exact j15
              · replace hF := i_neg b16 hF
                refine en_segs [(104, .lconst 1, []), (105, .goto 4, [109])] (by decide +kernel) (y := (109, [some (.int p1), some (.long p2), none, some (.long p3), none], [.long 1], h)) rfl ?_
                obtain rfl := Option.some.inj hF
                exact j15
            · replace hF := i_neg b13 hF
              by_cases b17 : p1 = 8
              · replace hF := i_pos b17 hF
                refine en_tsC (by decide +kernel : u_at kl_216 1 = some (.tableswitch 149 2 12 #[59, 63, 67, 71, 85, 97, 109, 121, 133, 149, 145], [150, 60, 64, 68, 72, 86, 98, 110, 122, 134, 150, 146])) (by rw [b17]; decide) (u := 110) (by rw [b17]; rfl) ?_
                refine en_segs [(110, .lload_n 1, []), (111, .lload_n 3, []), (112, .lcmp, [])] (by decide +kernel) (y := (113, [some (.int p1), some (.long p2), none, some (.long p3), none], [.int (lg_cmp p2 p3)], h)) rfl ?_
                obtain ⟨t18, hX, hK⟩ := ob_some hF
                have j19 : Ends (EX D) (u_at kl_216) (121, [some (.int p1), some (.long p2), none, some (.long p3), none], [.long t18], h) QQ := by
                  have hF := hK
                  obtain rfl := Option.some.inj hF
                  exact en_ret (by decide +kernel : u_at kl_216 121 = some (.lreturn, [])) rfl (hQ)
                have hF := hX
                refine en_if_ne (by decide +kernel : u_at kl_216 113 = some (.ifCond .ne 7, [120])) (fun b20 => ?_) (fun b20 => ?_)
                · replace hF := i_pos b20 hF
                  refine en_segs [(116, .lconst 1, []), (117, .goto 4, [121])] (by decide +kernel) (y := (121, [some (.int p1), some (.long p2), none, some (.long p3), none], [.long 1], h)) rfl ?_
                  obtain rfl := Option.some.inj hF
                  exact j19
                · replace hF := i_neg b20 hF
                  refine en_segs [(120, .lconst 0, [])] (by decide +kernel) (y := (121, [some (.int p1), some (.long p2), none, some (.long p3), none], [.long 0], h)) rfl ?_
                  obtain rfl := Option.some.inj hF
                  exact j19
              · replace hF := i_neg b17 hF
                by_cases b21 : p1 = 9
                · replace hF := i_pos b21 hF
                  refine en_tsC (by decide +kernel : u_at kl_216 1 = some (.tableswitch 149 2 12 #[59, 63, 67, 71, 85, 97, 109, 121, 133, 149, 145], [150, 60, 64, 68, 72, 86, 98, 110, 122, 134, 150, 146])) (by rw [b21]; decide) (u := 122) (by rw [b21]; rfl) ?_
                  refine en_segs [(122, .lload_n 1, []), (123, .lload_n 3, []), (124, .lcmp, [])] (by decide +kernel) (y := (125, [some (.int p1), some (.long p2), none, some (.long p3), none], [.int (lg_cmp p2 p3)], h)) rfl ?_
                  obtain ⟨t22, hX, hK⟩ := ob_some hF
                  have j23 : Ends (EX D) (u_at kl_216) (133, [some (.int p1), some (.long p2), none, some (.long p3), none], [.long t22], h) QQ := by
                    have hF := hK
                    obtain rfl := Option.some.inj hF
                    exact en_ret (by decide +kernel : u_at kl_216 133 = some (.lreturn, [])) rfl (hQ)
                  have hF := hX
                  refine en_if_lt (by decide +kernel : u_at kl_216 125 = some (.ifCond .lt 7, [132])) (fun b24 => ?_) (fun b24 => ?_)
                  · replace hF := i_pos b24 hF
                    refine en_segs [(132, .lconst 0, [])] (by decide +kernel) (y := (133, [some (.int p1), some (.long p2), none, some (.long p3), none], [.long 0], h)) rfl ?_
                    obtain rfl := Option.some.inj hF
                    exact j23
                  · replace hF := i_neg b24 hF
                    refine en_segs [(128, .lconst 1, []), (129, .goto 4, [133])] (by decide +kernel) (y := (133, [some (.int p1), some (.long p2), none, some (.long p3), none], [.long 1], h)) rfl ?_
                    obtain rfl := Option.some.inj hF
                    exact j23
                · replace hF := i_neg b21 hF
                  by_cases b25 : p1 = 10
                  · replace hF := i_pos b25 hF
                    refine en_tsC (by decide +kernel : u_at kl_216 1 = some (.tableswitch 149 2 12 #[59, 63, 67, 71, 85, 97, 109, 121, 133, 149, 145], [150, 60, 64, 68, 72, 86, 98, 110, 122, 134, 150, 146])) (by rw [b25]; decide) (u := 134) (by rw [b25]; rfl) ?_
                    refine en_segs [(134, .lload_n 1, []), (135, .lload_n 3, []), (136, .lcmp, [])] (by decide +kernel) (y := (137, [some (.int p1), some (.long p2), none, some (.long p3), none], [.int (lg_cmp p2 p3)], h)) rfl ?_
                    obtain ⟨t26, hX, hK⟩ := ob_some hF
                    have j27 : Ends (EX D) (u_at kl_216) (145, [some (.int p1), some (.long p2), none, some (.long p3), none], [.long t26], h) QQ := by
                      have hF := hK
                      obtain rfl := Option.some.inj hF
                      exact en_ret (by decide +kernel : u_at kl_216 145 = some (.lreturn, [])) rfl (hQ)
                    have hF := hX
                    refine en_if_le (by decide +kernel : u_at kl_216 137 = some (.ifCond .le 7, [144])) (fun b28 => ?_) (fun b28 => ?_)
                    · replace hF := i_pos b28 hF
                      refine en_segs [(144, .lconst 0, [])] (by decide +kernel) (y := (145, [some (.int p1), some (.long p2), none, some (.long p3), none], [.long 0], h)) rfl ?_
                      obtain rfl := Option.some.inj hF
                      exact j27
                    · replace hF := i_neg b28 hF
                      refine en_segs [(140, .lconst 1, []), (141, .goto 4, [145])] (by decide +kernel) (y := (145, [some (.int p1), some (.long p2), none, some (.long p3), none], [.long 1], h)) rfl ?_
                      obtain rfl := Option.some.inj hF
                      exact j27
                  · replace hF := i_neg b25 hF
                    by_cases b29 : p1 = 11
                    · replace hF := i_pos b29 hF
                      refine en_tsC (by decide +kernel : u_at kl_216 1 = some (.tableswitch 149 2 12 #[59, 63, 67, 71, 85, 97, 109, 121, 133, 149, 145], [150, 60, 64, 68, 72, 86, 98, 110, 122, 134, 150, 146])) (by rw [b29]; decide) (u := 150) (by rw [b29]; rfl) ?_
                      refine en_segs [(150, .lload_n 1, []), (151, .lload_n 3, []), (152, .lor, [])] (by decide +kernel) (y := (153, [some (.int p1), some (.long p2), none, some (.long p3), none], [.long (p2 ||| p3)], h)) rfl ?_
                      obtain rfl := Option.some.inj hF
                      exact en_ret (by decide +kernel : u_at kl_216 153 = some (.lreturn, [])) rfl (hQ)
                    · replace hF := i_neg b29 hF
                      by_cases b30 : p1 = 12
                      · replace hF := i_pos b30 hF
                        refine en_tsC (by decide +kernel : u_at kl_216 1 = some (.tableswitch 149 2 12 #[59, 63, 67, 71, 85, 97, 109, 121, 133, 149, 145], [150, 60, 64, 68, 72, 86, 98, 110, 122, 134, 150, 146])) (by rw [b30]; decide) (u := 146) (by rw [b30]; rfl) ?_
                        refine en_segs [(146, .lload_n 1, []), (147, .lload_n 3, []), (148, .land, [])] (by decide +kernel) (y := (149, [some (.int p1), some (.long p2), none, some (.long p3), none], [.long (p2 &&& p3)], h)) rfl ?_
                        obtain rfl := Option.some.inj hF
                        exact en_ret (by decide +kernel : u_at kl_216 149 = some (.lreturn, [])) rfl (hQ)
                      · replace hF := i_neg b30 hF
                        have wb1 : (p1 : Int32).toInt ≠ 2 := ti_ne b1
                        have wb2 : (p1 : Int32).toInt ≠ 3 := ti_ne b2
                        have wb3 : (p1 : Int32).toInt ≠ 4 := ti_ne b3
                        have wb4 : (p1 : Int32).toInt ≠ 5 := ti_ne b4
                        have wb9 : (p1 : Int32).toInt ≠ 6 := ti_ne b9
                        have wb13 : (p1 : Int32).toInt ≠ 7 := ti_ne b13
                        have wb17 : (p1 : Int32).toInt ≠ 8 := ti_ne b17
                        have wb21 : (p1 : Int32).toInt ≠ 9 := ti_ne b21
                        have wb25 : (p1 : Int32).toInt ≠ 10 := ti_ne b25
                        have wb29 : (p1 : Int32).toInt ≠ 11 := ti_ne b29
                        have wb30 : (p1 : Int32).toInt ≠ 12 := ti_ne b30
                        refine en_tsO (by decide +kernel : u_at kl_216 1 = some (.tableswitch 149 2 12 #[59, 63, 67, 71, 85, 97, 109, 121, 133, 149, 145], [150, 60, 64, 68, 72, 86, 98, 110, 122, 134, 150, 146])) (by omega) ?_
                        refine en_segs [(150, .lload_n 1, []), (151, .lload_n 3, []), (152, .lor, [])] (by decide +kernel) (y := (153, [some (.int p1), some (.long p2), none, some (.long p3), none], [.long (p2 ||| p3)], h)) rfl ?_
                        obtain rfl := Option.some.inj hF
                        exact en_ret (by decide +kernel : u_at kl_216 153 = some (.lreturn, [])) rfl (hQ)
def G_217 (a0 : Nat) (lab : Nat) (xs : List Int32) (ys : List Int64) (zs : List Nat) (c12 : Cl) : Option (Int64 × Cl) := match lab, xs, ys, zs with
  | 0, [x1, x3, x4], [], [] =>
    if x3 ≤ x4 then
    F_215 c12 a0 >>= fun r3 =>
    some (r3.1, r3.2)
    else
    ald (cA c12 3 a0) 2400 ((400 * x1) + x4) >>= fun v4 =>
    ald (cA c12 3 a0) 2400 ((400 * x1) + x4) >>= fun v5 =>
    ((if (v4 &&& 15) = 0 then
    F_214 c12 a0 ((v5 >>> (4 &&& 31) : Int32).toInt64) >>= fun r9 =>
    some r9
    else
    if (v4 &&& 15) = 1 then
    ldl (cB c12 19 a0) 12 (v5 >>> (4 &&& 31)) >>= fun v11 =>
    F_214 c12 a0 v11 >>= fun r12 =>
    some r12
    else
    if (v4 &&& 15) = 11 then
    F_215 c12 a0 >>= fun r14 =>
    F_214 r14.2 a0 (1 - r14.1) >>= fun r15 =>
    some r15
    else
    F_215 c12 a0 >>= fun r16 =>
    F_215 r16.2 a0 >>= fun r17 =>
    F_216 (v4 &&& 15) r17.1 r16.1 >>= fun r18 =>
    F_214 r17.2 a0 r18 >>= fun r19 =>
    some r19) : Option (Cl)) >>= fun (t6 : Cl) =>
    G_217 a0 0 [x1, x3, x4 + 1] [] [] t6
  | _, _, _, _ => none
partial_fixpoint
set_option maxRecDepth 100000 in
set_option maxHeartbeats 4000000 in
theorem g_217 {D : Nat} (hD : 2 ≤ D + 1) {c0 c1 c2 c3 c4 c5 c6 c7 c8 c9 c10 c11 c13 : Cl} {d : Ad} {a0 : Nat} (ha0 : aK d a0 = (0, 12, 0)) : ∀ (lab : Nat) (xs : List Int32) (ys : List Int64) (zs : List Nat) (c12 : Cl) (r : (Int64 × Cl)), G_217 a0 lab xs ys zs c12 = some r →
    (∀ (x1 : Int32) (x3 : Int32) (x4 : Int32), lab = 0 → xs = [x1, x3, x4] → ys = [] → zs = [] → ∀ h : UH, HW (mkw c0 c1 c2 c3 c4 c5 c6 c7 c8 c9 c10 c11 c12 c13) d h → ∀ QQ : UR → Prop, (∀ h' : UH, HW (mkw c0 c1 c2 c3 c4 c5 c6 c7 c8 c9 c10 c11 r.2 c13) d h' → QQ (some (.long r.1), h')) → Ends (EX D) (u_at kl_217) (8, [some (.ref a0), some (.int x1), none, some (.int x3), some (.int x4), none, none, none, none, none, none], [], h) QQ) := by
  refine G_217.partial_correctness _ (motive := fun lab xs ys zs c12 r =>
    (∀ (x1 : Int32) (x3 : Int32) (x4 : Int32), lab = 0 → xs = [x1, x3, x4] → ys = [] → zs = [] → ∀ h : UH, HW (mkw c0 c1 c2 c3 c4 c5 c6 c7 c8 c9 c10 c11 c12 c13) d h → ∀ QQ : UR → Prop, (∀ h' : UH, HW (mkw c0 c1 c2 c3 c4 c5 c6 c7 c8 c9 c10 c11 r.2 c13) d h' → QQ (some (.long r.1), h')) → Ends (EX D) (u_at kl_217) (8, [some (.ref a0), some (.int x1), none, some (.int x3), some (.int x4), none, none, none, none, none, none], [], h) QQ)) ?_
  intro G ih lab xs ys zs c12 r hF
  · intro x1 x3 x4 e1 e2 e3 e4 h hW QQ hQ
    subst e1 e2 e3 e4
    refine en_segs [(8, .iload 4, []), (10, .iload_n 3, [])] (by decide +kernel) (y := (11, [some (.ref a0), some (.int x1), none, some (.int x3), some (.int x4), none, none, none, none, none, none], [.int x3, .int x4], h)) rfl ?_
    refine en_ic_ge (by decide +kernel : u_at kl_217 11 = some (.if_icmp .ge 124, [135])) (fun b2 => ?_) (fun b2 => ?_)
    · replace hF := i_pos b2 hF
      refine en_segs [(135, .aload_n 0, [])] (by decide +kernel) (y := (136, [some (.ref a0), some (.int x1), none, some (.int x3), some (.int x4), none, none, none, none, none, none], [.ref a0], h)) rfl ?_
      obtain ⟨r3, hr3, hF⟩ := ob_some hF
      refine en_vl (r := []) (by decide +kernel : u_at kl_217 136 = some (.invokevirtual 335, [215, 0, 12])) hW ha0 rfl rfl (Nat.le_of_ble_eq_true rfl) (e_215 (D := D) (by omega) hW ha0 hr3) (fun h hW => ?_)
      have hW : HW (mkw c0 c1 c2 c3 c4 c5 c6 c7 c8 c9 c10 c11 r3.2 c13) d h := hW
      obtain rfl := Option.some.inj hF
      exact en_ret (by decide +kernel : u_at kl_217 139 = some (.lreturn, [])) rfl (hQ _ hW)
    · replace hF := i_neg b2 hF
      refine en_segs [(14, .aload_n 0, [])] (by decide +kernel) (y := (15, [some (.ref a0), some (.int x1), none, some (.int x3), some (.int x4), none, none, none, none, none, none], [.ref a0], h)) rfl ?_
      refine en_get (by decide +kernel : u_at kl_217 15 = some (.getfield 13, [12, 3])) hW ha0 (by decide) rfl ?_
      refine en_segs [(18, .sipush 400, []), (21, .iload_n 1, []), (22, .imul, []), (23, .iload 4, []), (25, .iadd, [])] (by decide +kernel) (y := (26, [some (.ref a0), some (.int x1), none, some (.int x3), some (.int x4), none, none, none, none, none, none], [.int ((400 * x1) + x4), .ref (aP d 12 3 a0)], h)) rfl ?_
      obtain ⟨v4, hv4, hF⟩ := ob_some hF
      refine en_iald (by decide +kernel : u_at kl_217 26 = some (.iaload, [])) hW ha0 rfl (by decide) hv4 ?_
      refine en_segs [(27, .bipush 15, []), (29, .iand, []), (30, .istore 5, []), (32, .aload_n 0, [])] (by decide +kernel) (y := (33, [some (.ref a0), some (.int x1), none, some (.int x3), some (.int x4), some (.int (v4 &&& 15)), none, none, none, none, none], [.ref a0], h)) rfl ?_
      refine en_get (by decide +kernel : u_at kl_217 33 = some (.getfield 13, [12, 3])) hW ha0 (by decide) rfl ?_
      refine en_segs [(36, .sipush 400, []), (39, .iload_n 1, []), (40, .imul, []), (41, .iload 4, []), (43, .iadd, [])] (by decide +kernel) (y := (44, [some (.ref a0), some (.int x1), none, some (.int x3), some (.int x4), some (.int (v4 &&& 15)), none, none, none, none, none], [.int ((400 * x1) + x4), .ref (aP d 12 3 a0)], h)) rfl ?_
      obtain ⟨v5, hv5, hF⟩ := ob_some hF
      refine en_iald (by decide +kernel : u_at kl_217 44 = some (.iaload, [])) hW ha0 rfl (by decide) hv5 ?_
      refine en_segs [(45, .iconst 4, []), (46, .ishr, []), (47, .istore 6, []), (49, .iload 5, [])] (by decide +kernel) (y := (51, [some (.ref a0), some (.int x1), none, some (.int x3), some (.int x4), some (.int (v4 &&& 15)), some (.int (v5 >>> (4 &&& 31))), none, none, none, none], [.int (v4 &&& 15)], h)) rfl ?_
      obtain ⟨t6, hX, hK⟩ := ob_some hF
      have j7 : ∀ h : UH, HW (mkw c0 c1 c2 c3 c4 c5 c6 c7 c8 c9 c10 c11 t6 c13) d h → Ends (EX D) (u_at kl_217) (129, [some (.ref a0), some (.int x1), none, some (.int x3), some (.int x4), some (.int (v4 &&& 15)), some (.int (v5 >>> (4 &&& 31))), none, none, none, none], [], h) QQ := by
        intro h hW
        have hF := hK
        refine en_segs [(129, .iinc 4 1, []), (132, .goto (-124), [8])] (by decide +kernel) (y := (8, [some (.ref a0), some (.int x1), none, some (.int x3), some (.int (x4 + 1)), some (.int (v4 &&& 15)), some (.int (v5 >>> (4 &&& 31))), none, none, none, none], [], h)) rfl ?_
        refine en_fg (fg_k (fg_k (fg_k (fg_k (fg_k (fg_d (fg_d (fg_k (fg_k (fg_k (fg_k fg_0))))))))))) ?_
        exact (ih _ _ _ _ _ _ hF) _ _ _ rfl rfl rfl rfl  _ hW _ hQ
      have hF := hX
      refine en_if_ne (by decide +kernel : u_at kl_217 51 = some (.ifCond .ne 13, [64])) (fun b8 => ?_) (fun b8 => ?_)
      · replace hF := i_pos b8 hF
        refine en_segs [(54, .aload_n 0, []), (55, .iload 6, []), (57, .i2l, [])] (by decide +kernel) (y := (58, [some (.ref a0), some (.int x1), none, some (.int x3), some (.int x4), some (.int (v4 &&& 15)), some (.int (v5 >>> (4 &&& 31))), none, none, none, none], [.long ((v5 >>> (4 &&& 31) : Int32).toInt64), .ref a0], h)) rfl ?_
        obtain ⟨r9, hr9, hF⟩ := ob_some hF
        refine en_vv (r := []) (by decide +kernel : u_at kl_217 58 = some (.invokevirtual 331, [214, 1, 12])) hW ha0 rfl rfl (Nat.le_of_ble_eq_true rfl) (e_214 (D := D) (by omega) hW ha0 hr9) (fun h hW => ?_)
        have hW : HW (mkw c0 c1 c2 c3 c4 c5 c6 c7 c8 c9 c10 c11 r9 c13) d h := hW
        refine en_segs [(61, .goto 68, [129])] (by decide +kernel) (y := (129, [some (.ref a0), some (.int x1), none, some (.int x3), some (.int x4), some (.int (v4 &&& 15)), some (.int (v5 >>> (4 &&& 31))), none, none, none, none], [], h)) rfl ?_
        obtain rfl := Option.some.inj hF
        exact j7 _ hW
      · replace hF := i_neg b8 hF
        refine en_segs [(64, .iload 5, []), (66, .iconst 1, [])] (by decide +kernel) (y := (67, [some (.ref a0), some (.int x1), none, some (.int x3), some (.int x4), some (.int (v4 &&& 15)), some (.int (v5 >>> (4 &&& 31))), none, none, none, none], [.int 1, .int (v4 &&& 15)], h)) rfl ?_
        refine en_ic_ne (by decide +kernel : u_at kl_217 67 = some (.if_icmp .ne 17, [84])) (fun b10 => ?_) (fun b10 => ?_)
        · replace hF := i_pos b10 hF
          refine en_segs [(70, .aload_n 0, []), (71, .aload_n 0, [])] (by decide +kernel) (y := (72, [some (.ref a0), some (.int x1), none, some (.int x3), some (.int x4), some (.int (v4 &&& 15)), some (.int (v5 >>> (4 &&& 31))), none, none, none, none], [.ref a0, .ref a0], h)) rfl ?_
          refine en_get (by decide +kernel : u_at kl_217 72 = some (.getfield 36, [12, 19])) hW ha0 (by decide) rfl ?_
          refine en_segs [(75, .iload 6, [])] (by decide +kernel) (y := (77, [some (.ref a0), some (.int x1), none, some (.int x3), some (.int x4), some (.int (v4 &&& 15)), some (.int (v5 >>> (4 &&& 31))), none, none, none, none], [.int (v5 >>> (4 &&& 31)), .ref (aP d 12 19 a0), .ref a0], h)) rfl ?_
          obtain ⟨v11, hv11, hF⟩ := ob_some hF
          refine en_lald (by decide +kernel : u_at kl_217 77 = some (.laload, [])) hW ha0 rfl (by decide) hv11 ?_
          obtain ⟨r12, hr12, hF⟩ := ob_some hF
          refine en_vv (r := []) (by decide +kernel : u_at kl_217 78 = some (.invokevirtual 331, [214, 1, 12])) hW ha0 rfl rfl (Nat.le_of_ble_eq_true rfl) (e_214 (D := D) (by omega) hW ha0 hr12) (fun h hW => ?_)
          have hW : HW (mkw c0 c1 c2 c3 c4 c5 c6 c7 c8 c9 c10 c11 r12 c13) d h := hW
          refine en_segs [(81, .goto 48, [129])] (by decide +kernel) (y := (129, [some (.ref a0), some (.int x1), none, some (.int x3), some (.int x4), some (.int (v4 &&& 15)), some (.int (v5 >>> (4 &&& 31))), none, none, none, none], [], h)) rfl ?_
          obtain rfl := Option.some.inj hF
          exact j7 _ hW
        · replace hF := i_neg b10 hF
          refine en_segs [(84, .iload 5, []), (86, .bipush 11, [])] (by decide +kernel) (y := (88, [some (.ref a0), some (.int x1), none, some (.int x3), some (.int x4), some (.int (v4 &&& 15)), some (.int (v5 >>> (4 &&& 31))), none, none, none, none], [.int 11, .int (v4 &&& 15)], h)) rfl ?_
          refine en_ic_ne (by decide +kernel : u_at kl_217 88 = some (.if_icmp .ne 16, [104])) (fun b13 => ?_) (fun b13 => ?_)
          · replace hF := i_pos b13 hF
            refine en_segs [(91, .aload_n 0, []), (92, .lconst 1, []), (93, .aload_n 0, [])] (by decide +kernel) (y := (94, [some (.ref a0), some (.int x1), none, some (.int x3), some (.int x4), some (.int (v4 &&& 15)), some (.int (v5 >>> (4 &&& 31))), none, none, none, none], [.ref a0, .long 1, .ref a0], h)) rfl ?_
            obtain ⟨r14, hr14, hF⟩ := ob_some hF
            refine en_vl (r := [.long 1, .ref a0]) (by decide +kernel : u_at kl_217 94 = some (.invokevirtual 335, [215, 0, 12])) hW ha0 rfl rfl (Nat.le_of_ble_eq_true rfl) (e_215 (D := D) (by omega) hW ha0 hr14) (fun h hW => ?_)
            have hW : HW (mkw c0 c1 c2 c3 c4 c5 c6 c7 c8 c9 c10 c11 r14.2 c13) d h := hW
            refine en_segs [(97, .lsub, [])] (by decide +kernel) (y := (98, [some (.ref a0), some (.int x1), none, some (.int x3), some (.int x4), some (.int (v4 &&& 15)), some (.int (v5 >>> (4 &&& 31))), none, none, none, none], [.long (1 - r14.1), .ref a0], h)) rfl ?_
            obtain ⟨r15, hr15, hF⟩ := ob_some hF
            refine en_vv (r := []) (by decide +kernel : u_at kl_217 98 = some (.invokevirtual 331, [214, 1, 12])) hW ha0 rfl rfl (Nat.le_of_ble_eq_true rfl) (e_214 (D := D) (by omega) hW ha0 hr15) (fun h hW => ?_)
            have hW : HW (mkw c0 c1 c2 c3 c4 c5 c6 c7 c8 c9 c10 c11 r15 c13) d h := hW
            refine en_segs [(101, .goto 28, [129])] (by decide +kernel) (y := (129, [some (.ref a0), some (.int x1), none, some (.int x3), some (.int x4), some (.int (v4 &&& 15)), some (.int (v5 >>> (4 &&& 31))), none, none, none, none], [], h)) rfl ?_
            obtain rfl := Option.some.inj hF
            exact j7 _ hW
          · replace hF := i_neg b13 hF
            refine en_segs [(104, .aload_n 0, [])] (by decide +kernel) (y := (105, [some (.ref a0), some (.int x1), none, some (.int x3), some (.int x4), some (.int (v4 &&& 15)), some (.int (v5 >>> (4 &&& 31))), none, none, none, none], [.ref a0], h)) rfl ?_
            obtain ⟨r16, hr16, hF⟩ := ob_some hF
            refine en_vl (r := []) (by decide +kernel : u_at kl_217 105 = some (.invokevirtual 335, [215, 0, 12])) hW ha0 rfl rfl (Nat.le_of_ble_eq_true rfl) (e_215 (D := D) (by omega) hW ha0 hr16) (fun h hW => ?_)
            have hW : HW (mkw c0 c1 c2 c3 c4 c5 c6 c7 c8 c9 c10 c11 r16.2 c13) d h := hW
            refine en_segs [(108, .lstore 7, []), (110, .aload_n 0, [])] (by decide +kernel) (y := (111, [some (.ref a0), some (.int x1), none, some (.int x3), some (.int x4), some (.int (v4 &&& 15)), some (.int (v5 >>> (4 &&& 31))), some (.long r16.1), none, none, none], [.ref a0], h)) rfl ?_
            obtain ⟨r17, hr17, hF⟩ := ob_some hF
            refine en_vl (r := []) (by decide +kernel : u_at kl_217 111 = some (.invokevirtual 335, [215, 0, 12])) hW ha0 rfl rfl (Nat.le_of_ble_eq_true rfl) (e_215 (D := D) (by omega) hW ha0 hr17) (fun h hW => ?_)
            have hW : HW (mkw c0 c1 c2 c3 c4 c5 c6 c7 c8 c9 c10 c11 r17.2 c13) d h := hW
            refine en_segs [(114, .lstore 9, []), (116, .aload_n 0, []), (117, .iload 5, []), (119, .lload 9, []), (121, .lload 7, [])] (by decide +kernel) (y := (123, [some (.ref a0), some (.int x1), none, some (.int x3), some (.int x4), some (.int (v4 &&& 15)), some (.int (v5 >>> (4 &&& 31))), some (.long r16.1), none, some (.long r17.1), none], [.long r16.1, .long r17.1, .int (v4 &&& 15), .ref a0], h)) rfl ?_
            obtain ⟨r18, hr18, hF⟩ := ob_some hF
            refine en_sl (r := [.ref a0]) (by decide +kernel : u_at kl_217 123 = some (.invokestatic 339, [216, 3])) rfl rfl (Nat.le_of_ble_eq_true rfl) (e_216 (D := D) (by omega) hW hr18) (fun h' q => ?_)
            subst q
            obtain ⟨r19, hr19, hF⟩ := ob_some hF
            refine en_vv (r := []) (by decide +kernel : u_at kl_217 126 = some (.invokevirtual 331, [214, 1, 12])) hW ha0 rfl rfl (Nat.le_of_ble_eq_true rfl) (e_214 (D := D) (by omega) hW ha0 hr19) (fun h hW => ?_)
            have hW : HW (mkw c0 c1 c2 c3 c4 c5 c6 c7 c8 c9 c10 c11 r19 c13) d h := hW
            obtain rfl := Option.some.inj hF
            refine en_fg (fg_k (fg_k (fg_k (fg_k (fg_k (fg_k (fg_k (fg_d (fg_k (fg_d (fg_k fg_0))))))))))) ?_
            exact j7 _ hW
def F_217 (c12 : Cl) (a0 : Nat) (p1 : Int32) (p2 : Int32) (p3 : Int32) : Option (Int64 × Cl) :=
  some (sI c12 18 a0 0) >>= fun c12_1 =>
  G_217 a0 0 [p1, p3, p2] [] [] c12_1
set_option maxRecDepth 100000 in
set_option maxHeartbeats 4000000 in
/-- HeadCountsModel.reckons -/
theorem e_217 {D : Nat} {c0 c1 c2 c3 c4 c5 c6 c7 c8 c9 c10 c11 c12 c13 : Cl} {d : Ad} {h : UH} {a0 : Nat} {p1 : Int32} {p2 : Int32} {p3 : Int32} {r : (Int64 × Cl)} (hD : 2 ≤ D) (hW : HW (mkw c0 c1 c2 c3 c4 c5 c6 c7 c8 c9 c10 c11 c12 c13) d h) (ha0 : aK d a0 = (0, 12, 0)) (hF : F_217 c12 a0 p1 p2 p3 = some r) : ∃ q, EX D 217 [.ref a0, .int p1, .int p2, .int p3] h q ∧ q.1 = some (.long r.1) ∧ HW (mkw c0 c1 c2 c3 c4 c5 c6 c7 c8 c9 c10 c11 r.2 c13) d q.2 := by
  obtain ⟨D, rfl⟩ : ∃ E, D = E + 1 := ⟨D - 1, by omega⟩
  unfold F_217 at hF
  refine ex_in (kl := kl_217) (nL := 11) rfl (by decide +kernel) (Nat.le_of_ble_eq_true rfl) ?_
  obtain ⟨QQ, hQQ⟩ : ∃ QQ : UR → Prop, QQ = (fun q : UR => q.1 = some (.long r.1) ∧ HW (mkw c0 c1 c2 c3 c4 c5 c6 c7 c8 c9 c10 c11 r.2 c13) d q.2) := ⟨_, rfl⟩
  rw [← hQQ]
  have hQ : ∀ h' : UH, HW (mkw c0 c1 c2 c3 c4 c5 c6 c7 c8 c9 c10 c11 r.2 c13) d h' → QQ (some (.long r.1), h') := fun h' p => by rw [hQQ]; exact ⟨rfl, p⟩
  clear hQQ
  show Ends (EX D) (u_at kl_217) (0, [some (.ref a0), some (.int p1), some (.int p2), some (.int p3), none, none, none, none, none, none, none], [], h) QQ
  refine en_segs [(0, .aload_n 0, []), (1, .iconst 0, [])] (by decide +kernel) (y := (2, [some (.ref a0), some (.int p1), some (.int p2), some (.int p3), none, none, none, none, none, none, none], [.int 0, .ref a0], h)) rfl ?_
  obtain ⟨c12_1, hc12_1, hF⟩ := ob_some hF
  refine en_putI (by decide +kernel : u_at kl_217 2 = some (.putfield 328, [12, 18, 0])) hW ha0 rfl (by decide) rfl (fun h hW => ?_)
  have hW : HW (mkw c0 c1 c2 c3 c4 c5 c6 c7 c8 c9 c10 c11 c12_1 c13) d h := by rw [← Option.some.inj hc12_1]; exact hW
  refine en_segs [(5, .iload_n 2, []), (6, .istore 4, [])] (by decide +kernel) (y := (8, [some (.ref a0), some (.int p1), some (.int p2), some (.int p3), some (.int p2), none, none, none, none, none, none], [], h)) rfl ?_
  refine en_fg (fg_k (fg_k (fg_d (fg_k (fg_k (fg_k (fg_k (fg_k (fg_k (fg_k (fg_k fg_0))))))))))) ?_
  exact (g_217 (D := D) hD ha0 _ _ _ _ _ _ hF) _ _ _ rfl rfl rfl rfl  _ hW _ hQ
def F_218 (c12 : Cl) (a0 : Nat) : Option Int32 :=
  ald (cA c12 20 a0) 221 0 >>= fun v1 =>
  ((if v1 ≤ 0 then
  some 0
  else
  some 1) : Option (Int32)) >>= fun (t2 : Int32) =>
  zb t2 >>= fun z4 => some z4
set_option maxRecDepth 100000 in
set_option maxHeartbeats 4000000 in
/-- HeadCountsModel.isHouse -/
theorem e_218 {D : Nat} {c0 c1 c2 c3 c4 c5 c6 c7 c8 c9 c10 c11 c12 c13 : Cl} {d : Ad} {h : UH} {a0 : Nat} {r : Int32} (hD : 1 ≤ D) (hW : HW (mkw c0 c1 c2 c3 c4 c5 c6 c7 c8 c9 c10 c11 c12 c13) d h) (ha0 : aK d a0 = (0, 12, 0)) (hF : F_218 c12 a0 = some r) : ∃ q, EX D 218 [.ref a0] h q ∧ q.1 = some (.int r) ∧ h = q.2 := by
  obtain ⟨D, rfl⟩ : ∃ E, D = E + 1 := ⟨D - 1, by omega⟩
  unfold F_218 at hF
  refine ex_in (kl := kl_218) (nL := 1) rfl (by decide +kernel) (Nat.le_of_ble_eq_true rfl) ?_
  obtain ⟨QQ, hQQ⟩ : ∃ QQ : UR → Prop, QQ = (fun q : UR => q.1 = some (.int r) ∧ h = q.2) := ⟨_, rfl⟩
  rw [← hQQ]
  have hQ : QQ (some (.int r), h) := by rw [hQQ]; exact ⟨rfl, rfl⟩
  clear hQQ
  show Ends (EX D) (u_at kl_218) (0, [some (.ref a0)], [], h) QQ
  refine en_segs [(0, .aload_n 0, [])] (by decide +kernel) (y := (1, [some (.ref a0)], [.ref a0], h)) rfl ?_
  refine en_get (by decide +kernel : u_at kl_218 1 = some (.getfield 39, [12, 20])) hW ha0 (by decide) rfl ?_
  refine en_segs [(4, .iconst 0, [])] (by decide +kernel) (y := (5, [some (.ref a0)], [.int 0, .ref (aP d 12 20 a0)], h)) rfl ?_
  obtain ⟨v1, hv1, hF⟩ := ob_some hF
  refine en_iald (by decide +kernel : u_at kl_218 5 = some (.iaload, [])) hW ha0 rfl (by decide) hv1 ?_
  obtain ⟨t2, hX, hK⟩ := ob_some hF
  have j3 : Ends (EX D) (u_at kl_218) (14, [some (.ref a0)], [.int t2], h) QQ := by
    have hF := hK
    obtain ⟨z4, hz4, hF⟩ := ob_some hF
    obtain rfl := Option.some.inj hF
    exact en_retZ (by decide +kernel : u_at kl_218 14 = some (.ireturn, [1])) hz4 (hQ)
  have hF := hX
  refine en_if_le (by decide +kernel : u_at kl_218 6 = some (.ifCond .le 7, [13])) (fun b5 => ?_) (fun b5 => ?_)
  · replace hF := i_pos b5 hF
    refine en_segs [(13, .iconst 0, [])] (by decide +kernel) (y := (14, [some (.ref a0)], [.int 0], h)) rfl ?_
    obtain rfl := Option.some.inj hF
    exact j3
  · replace hF := i_neg b5 hF
    refine en_segs [(9, .iconst 1, []), (10, .goto 4, [14])] (by decide +kernel) (y := (14, [some (.ref a0)], [.int 1], h)) rfl ?_
    obtain rfl := Option.some.inj hF
    exact j3
def F_219 (c12 : Cl) (a0 : Nat) (p1 : Int32) : Option Int32 :=
  ((if p1 < 0 then
  some 0
  else
  ald (cA c12 20 a0) 221 0 >>= fun v5 =>
  if v5 ≤ p1 then
  some 0
  else
  some 1) : Option (Int32)) >>= fun (t1 : Int32) =>
  zb t1 >>= fun z3 => some z3
set_option maxRecDepth 100000 in
set_option maxHeartbeats 4000000 in
/-- HeadCountsModel.isRoom -/
theorem e_219 {D : Nat} {c0 c1 c2 c3 c4 c5 c6 c7 c8 c9 c10 c11 c12 c13 : Cl} {d : Ad} {h : UH} {a0 : Nat} {p1 : Int32} {r : Int32} (hD : 1 ≤ D) (hW : HW (mkw c0 c1 c2 c3 c4 c5 c6 c7 c8 c9 c10 c11 c12 c13) d h) (ha0 : aK d a0 = (0, 12, 0)) (hF : F_219 c12 a0 p1 = some r) : ∃ q, EX D 219 [.ref a0, .int p1] h q ∧ q.1 = some (.int r) ∧ h = q.2 := by
  obtain ⟨D, rfl⟩ : ∃ E, D = E + 1 := ⟨D - 1, by omega⟩
  unfold F_219 at hF
  refine ex_in (kl := kl_219) (nL := 2) rfl (by decide +kernel) (Nat.le_of_ble_eq_true rfl) ?_
  obtain ⟨QQ, hQQ⟩ : ∃ QQ : UR → Prop, QQ = (fun q : UR => q.1 = some (.int r) ∧ h = q.2) := ⟨_, rfl⟩
  rw [← hQQ]
  have hQ : QQ (some (.int r), h) := by rw [hQQ]; exact ⟨rfl, rfl⟩
  clear hQQ
  show Ends (EX D) (u_at kl_219) (0, [some (.ref a0), some (.int p1)], [], h) QQ
  refine en_segs [(0, .iload_n 1, [])] (by decide +kernel) (y := (1, [some (.ref a0), some (.int p1)], [.int p1], h)) rfl ?_
  obtain ⟨t1, hX, hK⟩ := ob_some hF
  have j2 : Ends (EX D) (u_at kl_219) (19, [some (.ref a0), some (.int p1)], [.int t1], h) QQ := by
    have hF := hK
    obtain ⟨z3, hz3, hF⟩ := ob_some hF
    obtain rfl := Option.some.inj hF
    exact en_retZ (by decide +kernel : u_at kl_219 19 = some (.ireturn, [1])) hz3 (hQ)
  have hF := hX
  refine en_if_lt (by decide +kernel : u_at kl_219 1 = some (.ifCond .lt 17, [18])) (fun b4 => ?_) (fun b4 => ?_)
  · replace hF := i_pos b4 hF
    refine en_segs [(18, .iconst 0, [])] (by decide +kernel) (y := (19, [some (.ref a0), some (.int p1)], [.int 0], h)) rfl ?_
    obtain rfl := Option.some.inj hF
    exact j2
  · replace hF := i_neg b4 hF
    refine en_segs [(4, .iload_n 1, []), (5, .aload_n 0, [])] (by decide +kernel) (y := (6, [some (.ref a0), some (.int p1)], [.ref a0, .int p1], h)) rfl ?_
    refine en_get (by decide +kernel : u_at kl_219 6 = some (.getfield 39, [12, 20])) hW ha0 (by decide) rfl ?_
    refine en_segs [(9, .iconst 0, [])] (by decide +kernel) (y := (10, [some (.ref a0), some (.int p1)], [.int 0, .ref (aP d 12 20 a0), .int p1], h)) rfl ?_
    obtain ⟨v5, hv5, hF⟩ := ob_some hF
    refine en_iald (by decide +kernel : u_at kl_219 10 = some (.iaload, [])) hW ha0 rfl (by decide) hv5 ?_
    refine en_ic_ge (by decide +kernel : u_at kl_219 11 = some (.if_icmp .ge 7, [18])) (fun b6 => ?_) (fun b6 => ?_)
    · replace hF := i_pos b6 hF
      refine en_segs [(18, .iconst 0, [])] (by decide +kernel) (y := (19, [some (.ref a0), some (.int p1)], [.int 0], h)) rfl ?_
      obtain rfl := Option.some.inj hF
      exact j2
    · replace hF := i_neg b6 hF
      refine en_segs [(14, .iconst 1, []), (15, .goto 4, [19])] (by decide +kernel) (y := (19, [some (.ref a0), some (.int p1)], [.int 1], h)) rfl ?_
      obtain rfl := Option.some.inj hF
      exact j2
def F_220 (c12 : Cl) (a0 : Nat) (p1 : Int32) : Option Int32 :=
  ((if p1 < 0 then
  some 0
  else
  ald (cA c12 20 a0) 221 1 >>= fun v5 =>
  if v5 ≤ p1 then
  some 0
  else
  some 1) : Option (Int32)) >>= fun (t1 : Int32) =>
  zb t1 >>= fun z3 => some z3
set_option maxRecDepth 100000 in
set_option maxHeartbeats 4000000 in
/-- HeadCountsModel.isDoor -/
theorem e_220 {D : Nat} {c0 c1 c2 c3 c4 c5 c6 c7 c8 c9 c10 c11 c12 c13 : Cl} {d : Ad} {h : UH} {a0 : Nat} {p1 : Int32} {r : Int32} (hD : 1 ≤ D) (hW : HW (mkw c0 c1 c2 c3 c4 c5 c6 c7 c8 c9 c10 c11 c12 c13) d h) (ha0 : aK d a0 = (0, 12, 0)) (hF : F_220 c12 a0 p1 = some r) : ∃ q, EX D 220 [.ref a0, .int p1] h q ∧ q.1 = some (.int r) ∧ h = q.2 := by
  obtain ⟨D, rfl⟩ : ∃ E, D = E + 1 := ⟨D - 1, by omega⟩
  unfold F_220 at hF
  refine ex_in (kl := kl_220) (nL := 2) rfl (by decide +kernel) (Nat.le_of_ble_eq_true rfl) ?_
  obtain ⟨QQ, hQQ⟩ : ∃ QQ : UR → Prop, QQ = (fun q : UR => q.1 = some (.int r) ∧ h = q.2) := ⟨_, rfl⟩
  rw [← hQQ]
  have hQ : QQ (some (.int r), h) := by rw [hQQ]; exact ⟨rfl, rfl⟩
  clear hQQ
  show Ends (EX D) (u_at kl_220) (0, [some (.ref a0), some (.int p1)], [], h) QQ
  refine en_segs [(0, .iload_n 1, [])] (by decide +kernel) (y := (1, [some (.ref a0), some (.int p1)], [.int p1], h)) rfl ?_
  obtain ⟨t1, hX, hK⟩ := ob_some hF
  have j2 : Ends (EX D) (u_at kl_220) (19, [some (.ref a0), some (.int p1)], [.int t1], h) QQ := by
    have hF := hK
    obtain ⟨z3, hz3, hF⟩ := ob_some hF
    obtain rfl := Option.some.inj hF
    exact en_retZ (by decide +kernel : u_at kl_220 19 = some (.ireturn, [1])) hz3 (hQ)
  have hF := hX
  refine en_if_lt (by decide +kernel : u_at kl_220 1 = some (.ifCond .lt 17, [18])) (fun b4 => ?_) (fun b4 => ?_)
  · replace hF := i_pos b4 hF
    refine en_segs [(18, .iconst 0, [])] (by decide +kernel) (y := (19, [some (.ref a0), some (.int p1)], [.int 0], h)) rfl ?_
    obtain rfl := Option.some.inj hF
    exact j2
  · replace hF := i_neg b4 hF
    refine en_segs [(4, .iload_n 1, []), (5, .aload_n 0, [])] (by decide +kernel) (y := (6, [some (.ref a0), some (.int p1)], [.ref a0, .int p1], h)) rfl ?_
    refine en_get (by decide +kernel : u_at kl_220 6 = some (.getfield 39, [12, 20])) hW ha0 (by decide) rfl ?_
    refine en_segs [(9, .iconst 1, [])] (by decide +kernel) (y := (10, [some (.ref a0), some (.int p1)], [.int 1, .ref (aP d 12 20 a0), .int p1], h)) rfl ?_
    obtain ⟨v5, hv5, hF⟩ := ob_some hF
    refine en_iald (by decide +kernel : u_at kl_220 10 = some (.iaload, [])) hW ha0 rfl (by decide) hv5 ?_
    refine en_ic_ge (by decide +kernel : u_at kl_220 11 = some (.if_icmp .ge 7, [18])) (fun b6 => ?_) (fun b6 => ?_)
    · replace hF := i_pos b6 hF
      refine en_segs [(18, .iconst 0, [])] (by decide +kernel) (y := (19, [some (.ref a0), some (.int p1)], [.int 0], h)) rfl ?_
      obtain rfl := Option.some.inj hF
      exact j2
    · replace hF := i_neg b6 hF
      refine en_segs [(14, .iconst 1, []), (15, .goto 4, [19])] (by decide +kernel) (y := (19, [some (.ref a0), some (.int p1)], [.int 1], h)) rfl ?_
      obtain rfl := Option.some.inj hF
      exact j2
def F_221 (c12 : Cl) (a0 : Nat) (p1 : Int32) : Option Int32 :=
  ((if p1 < 0 then
  some 0
  else
  ald (cA c12 20 a0) 221 2 >>= fun v5 =>
  if v5 ≤ p1 then
  some 0
  else
  some 1) : Option (Int32)) >>= fun (t1 : Int32) =>
  zb t1 >>= fun z3 => some z3
set_option maxRecDepth 100000 in
set_option maxHeartbeats 4000000 in
/-- HeadCountsModel.isHead -/
theorem e_221 {D : Nat} {c0 c1 c2 c3 c4 c5 c6 c7 c8 c9 c10 c11 c12 c13 : Cl} {d : Ad} {h : UH} {a0 : Nat} {p1 : Int32} {r : Int32} (hD : 1 ≤ D) (hW : HW (mkw c0 c1 c2 c3 c4 c5 c6 c7 c8 c9 c10 c11 c12 c13) d h) (ha0 : aK d a0 = (0, 12, 0)) (hF : F_221 c12 a0 p1 = some r) : ∃ q, EX D 221 [.ref a0, .int p1] h q ∧ q.1 = some (.int r) ∧ h = q.2 := by
  obtain ⟨D, rfl⟩ : ∃ E, D = E + 1 := ⟨D - 1, by omega⟩
  unfold F_221 at hF
  refine ex_in (kl := kl_221) (nL := 2) rfl (by decide +kernel) (Nat.le_of_ble_eq_true rfl) ?_
  obtain ⟨QQ, hQQ⟩ : ∃ QQ : UR → Prop, QQ = (fun q : UR => q.1 = some (.int r) ∧ h = q.2) := ⟨_, rfl⟩
  rw [← hQQ]
  have hQ : QQ (some (.int r), h) := by rw [hQQ]; exact ⟨rfl, rfl⟩
  clear hQQ
  show Ends (EX D) (u_at kl_221) (0, [some (.ref a0), some (.int p1)], [], h) QQ
  refine en_segs [(0, .iload_n 1, [])] (by decide +kernel) (y := (1, [some (.ref a0), some (.int p1)], [.int p1], h)) rfl ?_
  obtain ⟨t1, hX, hK⟩ := ob_some hF
  have j2 : Ends (EX D) (u_at kl_221) (19, [some (.ref a0), some (.int p1)], [.int t1], h) QQ := by
    have hF := hK
    obtain ⟨z3, hz3, hF⟩ := ob_some hF
    obtain rfl := Option.some.inj hF
    exact en_retZ (by decide +kernel : u_at kl_221 19 = some (.ireturn, [1])) hz3 (hQ)
  have hF := hX
  refine en_if_lt (by decide +kernel : u_at kl_221 1 = some (.ifCond .lt 17, [18])) (fun b4 => ?_) (fun b4 => ?_)
  · replace hF := i_pos b4 hF
    refine en_segs [(18, .iconst 0, [])] (by decide +kernel) (y := (19, [some (.ref a0), some (.int p1)], [.int 0], h)) rfl ?_
    obtain rfl := Option.some.inj hF
    exact j2
  · replace hF := i_neg b4 hF
    refine en_segs [(4, .iload_n 1, []), (5, .aload_n 0, [])] (by decide +kernel) (y := (6, [some (.ref a0), some (.int p1)], [.ref a0, .int p1], h)) rfl ?_
    refine en_get (by decide +kernel : u_at kl_221 6 = some (.getfield 39, [12, 20])) hW ha0 (by decide) rfl ?_
    refine en_segs [(9, .iconst 2, [])] (by decide +kernel) (y := (10, [some (.ref a0), some (.int p1)], [.int 2, .ref (aP d 12 20 a0), .int p1], h)) rfl ?_
    obtain ⟨v5, hv5, hF⟩ := ob_some hF
    refine en_iald (by decide +kernel : u_at kl_221 10 = some (.iaload, [])) hW ha0 rfl (by decide) hv5 ?_
    refine en_ic_ge (by decide +kernel : u_at kl_221 11 = some (.if_icmp .ge 7, [18])) (fun b6 => ?_) (fun b6 => ?_)
    · replace hF := i_pos b6 hF
      refine en_segs [(18, .iconst 0, [])] (by decide +kernel) (y := (19, [some (.ref a0), some (.int p1)], [.int 0], h)) rfl ?_
      obtain rfl := Option.some.inj hF
      exact j2
    · replace hF := i_neg b6 hF
      refine en_segs [(14, .iconst 1, []), (15, .goto 4, [19])] (by decide +kernel) (y := (19, [some (.ref a0), some (.int p1)], [.int 1], h)) rfl ?_
      obtain rfl := Option.some.inj hF
      exact j2
def F_222 (c12 : Cl) (a0 : Nat) (p1 : Int32) : Option Int32 :=
  ((if p1 < 0 then
  some 0
  else
  ald (cA c12 20 a0) 221 3 >>= fun v5 =>
  if v5 ≤ p1 then
  some 0
  else
  some 1) : Option (Int32)) >>= fun (t1 : Int32) =>
  zb t1 >>= fun z3 => some z3
set_option maxRecDepth 100000 in
set_option maxHeartbeats 4000000 in
/-- HeadCountsModel.isSense -/
theorem e_222 {D : Nat} {c0 c1 c2 c3 c4 c5 c6 c7 c8 c9 c10 c11 c12 c13 : Cl} {d : Ad} {h : UH} {a0 : Nat} {p1 : Int32} {r : Int32} (hD : 1 ≤ D) (hW : HW (mkw c0 c1 c2 c3 c4 c5 c6 c7 c8 c9 c10 c11 c12 c13) d h) (ha0 : aK d a0 = (0, 12, 0)) (hF : F_222 c12 a0 p1 = some r) : ∃ q, EX D 222 [.ref a0, .int p1] h q ∧ q.1 = some (.int r) ∧ h = q.2 := by
  obtain ⟨D, rfl⟩ : ∃ E, D = E + 1 := ⟨D - 1, by omega⟩
  unfold F_222 at hF
  refine ex_in (kl := kl_222) (nL := 2) rfl (by decide +kernel) (Nat.le_of_ble_eq_true rfl) ?_
  obtain ⟨QQ, hQQ⟩ : ∃ QQ : UR → Prop, QQ = (fun q : UR => q.1 = some (.int r) ∧ h = q.2) := ⟨_, rfl⟩
  rw [← hQQ]
  have hQ : QQ (some (.int r), h) := by rw [hQQ]; exact ⟨rfl, rfl⟩
  clear hQQ
  show Ends (EX D) (u_at kl_222) (0, [some (.ref a0), some (.int p1)], [], h) QQ
  refine en_segs [(0, .iload_n 1, [])] (by decide +kernel) (y := (1, [some (.ref a0), some (.int p1)], [.int p1], h)) rfl ?_
  obtain ⟨t1, hX, hK⟩ := ob_some hF
  have j2 : Ends (EX D) (u_at kl_222) (19, [some (.ref a0), some (.int p1)], [.int t1], h) QQ := by
    have hF := hK
    obtain ⟨z3, hz3, hF⟩ := ob_some hF
    obtain rfl := Option.some.inj hF
    exact en_retZ (by decide +kernel : u_at kl_222 19 = some (.ireturn, [1])) hz3 (hQ)
  have hF := hX
  refine en_if_lt (by decide +kernel : u_at kl_222 1 = some (.ifCond .lt 17, [18])) (fun b4 => ?_) (fun b4 => ?_)
  · replace hF := i_pos b4 hF
    refine en_segs [(18, .iconst 0, [])] (by decide +kernel) (y := (19, [some (.ref a0), some (.int p1)], [.int 0], h)) rfl ?_
    obtain rfl := Option.some.inj hF
    exact j2
  · replace hF := i_neg b4 hF
    refine en_segs [(4, .iload_n 1, []), (5, .aload_n 0, [])] (by decide +kernel) (y := (6, [some (.ref a0), some (.int p1)], [.ref a0, .int p1], h)) rfl ?_
    refine en_get (by decide +kernel : u_at kl_222 6 = some (.getfield 39, [12, 20])) hW ha0 (by decide) rfl ?_
    refine en_segs [(9, .iconst 3, [])] (by decide +kernel) (y := (10, [some (.ref a0), some (.int p1)], [.int 3, .ref (aP d 12 20 a0), .int p1], h)) rfl ?_
    obtain ⟨v5, hv5, hF⟩ := ob_some hF
    refine en_iald (by decide +kernel : u_at kl_222 10 = some (.iaload, [])) hW ha0 rfl (by decide) hv5 ?_
    refine en_ic_ge (by decide +kernel : u_at kl_222 11 = some (.if_icmp .ge 7, [18])) (fun b6 => ?_) (fun b6 => ?_)
    · replace hF := i_pos b6 hF
      refine en_segs [(18, .iconst 0, [])] (by decide +kernel) (y := (19, [some (.ref a0), some (.int p1)], [.int 0], h)) rfl ?_
      obtain rfl := Option.some.inj hF
      exact j2
    · replace hF := i_neg b6 hF
      refine en_segs [(14, .iconst 1, []), (15, .goto 4, [19])] (by decide +kernel) (y := (19, [some (.ref a0), some (.int p1)], [.int 1], h)) rfl ?_
      obtain rfl := Option.some.inj hF
      exact j2
def G_229 (c12 : Cl) (a0 : Nat) (lab : Nat) (xs : List Int32) (ys : List Int64) (zs : List Nat) : Option Int32 := match lab, xs, ys, zs with
  | 0, [x1, x2, x3], [], [] =>
    ald (cA c12 20 a0) 221 2 >>= fun v1 =>
    if v1 ≤ x3 then
    some x2
    else
    F_223 c12 a0 x3 2 >>= fun r3 =>
    ((if r3 = x1 then
    F_223 c12 a0 x3 1 >>= fun r7 =>
    some r7
    else
    some 0) : Option (Int32)) >>= fun (t4 : Int32) =>
    G_229 c12 a0 0 [x1, x2 + t4, x3 + 1] [] []
  | _, _, _, _ => none
partial_fixpoint
set_option maxRecDepth 100000 in
set_option maxHeartbeats 4000000 in
theorem g_229 {D : Nat} (hD : 2 ≤ D + 1) {c0 c1 c2 c3 c4 c5 c6 c7 c8 c9 c10 c11 c12 c13 : Cl} {d : Ad} {a0 : Nat} (ha0 : aK d a0 = (0, 12, 0)) : ∀ (lab : Nat) (xs : List Int32) (ys : List Int64) (zs : List Nat) (r : Int32), G_229 c12 a0 lab xs ys zs = some r →
    (∀ (x1 : Int32) (x2 : Int32) (x3 : Int32), lab = 0 → xs = [x1, x2, x3] → ys = [] → zs = [] → ∀ h : UH, HW (mkw c0 c1 c2 c3 c4 c5 c6 c7 c8 c9 c10 c11 c12 c13) d h → ∀ QQ : UR → Prop, QQ (some (.int r), h) → Ends (EX D) (u_at kl_229) (4, [some (.ref a0), some (.int x1), some (.int x2), some (.int x3)], [], h) QQ) := by
  refine G_229.partial_correctness _ _ (motive := fun lab xs ys zs r =>
    (∀ (x1 : Int32) (x2 : Int32) (x3 : Int32), lab = 0 → xs = [x1, x2, x3] → ys = [] → zs = [] → ∀ h : UH, HW (mkw c0 c1 c2 c3 c4 c5 c6 c7 c8 c9 c10 c11 c12 c13) d h → ∀ QQ : UR → Prop, QQ (some (.int r), h) → Ends (EX D) (u_at kl_229) (4, [some (.ref a0), some (.int x1), some (.int x2), some (.int x3)], [], h) QQ)) ?_
  intro G ih lab xs ys zs r hF
  · intro x1 x2 x3 e1 e2 e3 e4 h hW QQ hQ
    subst e1 e2 e3 e4
    refine en_segs [(4, .iload_n 3, []), (5, .aload_n 0, [])] (by decide +kernel) (y := (6, [some (.ref a0), some (.int x1), some (.int x2), some (.int x3)], [.ref a0, .int x3], h)) rfl ?_
    refine en_get (by decide +kernel : u_at kl_229 6 = some (.getfield 39, [12, 20])) hW ha0 (by decide) rfl ?_
    refine en_segs [(9, .iconst 2, [])] (by decide +kernel) (y := (10, [some (.ref a0), some (.int x1), some (.int x2), some (.int x3)], [.int 2, .ref (aP d 12 20 a0), .int x3], h)) rfl ?_
    obtain ⟨v1, hv1, hF⟩ := ob_some hF
    refine en_iald (by decide +kernel : u_at kl_229 10 = some (.iaload, [])) hW ha0 rfl (by decide) hv1 ?_
    refine en_ic_ge (by decide +kernel : u_at kl_229 11 = some (.if_icmp .ge 32, [43])) (fun b2 => ?_) (fun b2 => ?_)
    · replace hF := i_pos b2 hF
      refine en_segs [(43, .iload_n 2, [])] (by decide +kernel) (y := (44, [some (.ref a0), some (.int x1), some (.int x2), some (.int x3)], [.int x2], h)) rfl ?_
      obtain rfl := Option.some.inj hF
      exact en_ret (by decide +kernel : u_at kl_229 44 = some (.ireturn, [0])) rfl (hQ)
    · replace hF := i_neg b2 hF
      refine en_segs [(14, .iload_n 2, []), (15, .aload_n 0, []), (16, .iload_n 3, []), (17, .iconst 2, [])] (by decide +kernel) (y := (18, [some (.ref a0), some (.int x1), some (.int x2), some (.int x3)], [.int 2, .int x3, .ref a0, .int x2], h)) rfl ?_
      obtain ⟨r3, hr3, hF⟩ := ob_some hF
      refine en_vi (r := [.int x2]) (by decide +kernel : u_at kl_229 18 = some (.invokevirtual 343, [223, 2, 12])) hW ha0 rfl rfl (Nat.le_of_ble_eq_true rfl) (e_223 (D := D) (by omega) hW ha0 hr3) (fun h' q => ?_)
      subst q
      refine en_segs [(21, .iload_n 1, [])] (by decide +kernel) (y := (22, [some (.ref a0), some (.int x1), some (.int x2), some (.int x3)], [.int x1, .int r3, .int x2], h)) rfl ?_
      obtain ⟨t4, hX, hK⟩ := ob_some hF
      have j5 : Ends (EX D) (u_at kl_229) (35, [some (.ref a0), some (.int x1), some (.int x2), some (.int x3)], [.int t4, .int x2], h) QQ := by
        have hF := hK
        refine en_segs [(35, .iadd, []), (36, .istore_n 2, []), (37, .iinc 3 1, []), (40, .goto (-36), [4])] (by decide +kernel) (y := (4, [some (.ref a0), some (.int x1), some (.int (x2 + t4)), some (.int (x3 + 1))], [], h)) rfl ?_
        exact (ih _ _ _ _ _ hF) _ _ _ rfl rfl rfl rfl  _ hW _ hQ
      have hF := hX
      refine en_ic_ne (by decide +kernel : u_at kl_229 22 = some (.if_icmp .ne 12, [34])) (fun b6 => ?_) (fun b6 => ?_)
      · replace hF := i_pos b6 hF
        refine en_segs [(25, .aload_n 0, []), (26, .iload_n 3, []), (27, .iconst 1, [])] (by decide +kernel) (y := (28, [some (.ref a0), some (.int x1), some (.int x2), some (.int x3)], [.int 1, .int x3, .ref a0, .int x2], h)) rfl ?_
        obtain ⟨r7, hr7, hF⟩ := ob_some hF
        refine en_vi (r := [.int x2]) (by decide +kernel : u_at kl_229 28 = some (.invokevirtual 343, [223, 2, 12])) hW ha0 rfl rfl (Nat.le_of_ble_eq_true rfl) (e_223 (D := D) (by omega) hW ha0 hr7) (fun h' q => ?_)
        subst q
        refine en_segs [(31, .goto 4, [35])] (by decide +kernel) (y := (35, [some (.ref a0), some (.int x1), some (.int x2), some (.int x3)], [.int r7, .int x2], h)) rfl ?_
        obtain rfl := Option.some.inj hF
        exact j5
      · replace hF := i_neg b6 hF
        refine en_segs [(34, .iconst 0, [])] (by decide +kernel) (y := (35, [some (.ref a0), some (.int x1), some (.int x2), some (.int x3)], [.int 0, .int x2], h)) rfl ?_
        obtain rfl := Option.some.inj hF
        exact j5
def F_229 (c12 : Cl) (a0 : Nat) (p1 : Int32) : Option Int32 :=
  G_229 c12 a0 0 [p1, 0, 0] [] []
set_option maxRecDepth 100000 in
set_option maxHeartbeats 4000000 in
/-- HeadCountsModel.countAtFirst -/
theorem e_229 {D : Nat} {c0 c1 c2 c3 c4 c5 c6 c7 c8 c9 c10 c11 c12 c13 : Cl} {d : Ad} {h : UH} {a0 : Nat} {p1 : Int32} {r : Int32} (hD : 2 ≤ D) (hW : HW (mkw c0 c1 c2 c3 c4 c5 c6 c7 c8 c9 c10 c11 c12 c13) d h) (ha0 : aK d a0 = (0, 12, 0)) (hF : F_229 c12 a0 p1 = some r) : ∃ q, EX D 229 [.ref a0, .int p1] h q ∧ q.1 = some (.int r) ∧ h = q.2 := by
  obtain ⟨D, rfl⟩ : ∃ E, D = E + 1 := ⟨D - 1, by omega⟩
  unfold F_229 at hF
  refine ex_in (kl := kl_229) (nL := 4) rfl (by decide +kernel) (Nat.le_of_ble_eq_true rfl) ?_
  obtain ⟨QQ, hQQ⟩ : ∃ QQ : UR → Prop, QQ = (fun q : UR => q.1 = some (.int r) ∧ h = q.2) := ⟨_, rfl⟩
  rw [← hQQ]
  have hQ : QQ (some (.int r), h) := by rw [hQQ]; exact ⟨rfl, rfl⟩
  clear hQQ
  show Ends (EX D) (u_at kl_229) (0, [some (.ref a0), some (.int p1), none, none], [], h) QQ
  refine en_segs [(0, .iconst 0, []), (1, .istore_n 2, []), (2, .iconst 0, []), (3, .istore_n 3, [])] (by decide +kernel) (y := (4, [some (.ref a0), some (.int p1), some (.int 0), some (.int 0)], [], h)) rfl ?_
  exact (g_229 (D := D) hD ha0 _ _ _ _ _ hF) _ _ _ rfl rfl rfl rfl  _ hW _ hQ
def F_228 (c12 : Cl) (a0 : Nat) (p1 : Int32) (p2 : Int32) : Option Int32 :=
  if p2 = 0 then
  F_226 c12 a0 p1 >>= fun r2 =>
  some r2
  else
  ald (cA c12 20 a0) 221 4 >>= fun v3 =>
  ((if p2 ≤ v3 then
  ald (cA c12 20 a0) 221 4 >>= fun v7 =>
  irm (v7 - p2) 12 >>= fun v8 =>
  ald (cA c12 20 a0) 221 ((112 + (6 * v8)) + p1) >>= fun v9 =>
  some v9
  else
  F_229 c12 a0 p1 >>= fun r10 =>
  some r10) : Option (Int32)) >>= fun (t4 : Int32) =>
  some t4
set_option maxRecDepth 100000 in
set_option maxHeartbeats 4000000 in
/-- HeadCountsModel.countAgo -/
theorem e_228 {D : Nat} {c0 c1 c2 c3 c4 c5 c6 c7 c8 c9 c10 c11 c12 c13 : Cl} {d : Ad} {h : UH} {a0 : Nat} {p1 : Int32} {p2 : Int32} {r : Int32} (hD : 5 ≤ D) (hW : HW (mkw c0 c1 c2 c3 c4 c5 c6 c7 c8 c9 c10 c11 c12 c13) d h) (ha0 : aK d a0 = (0, 12, 0)) (hF : F_228 c12 a0 p1 p2 = some r) : ∃ q, EX D 228 [.ref a0, .int p1, .int p2] h q ∧ q.1 = some (.int r) ∧ h = q.2 := by
  obtain ⟨D, rfl⟩ : ∃ E, D = E + 1 := ⟨D - 1, by omega⟩
  unfold F_228 at hF
  refine ex_in (kl := kl_228) (nL := 3) rfl (by decide +kernel) (Nat.le_of_ble_eq_true rfl) ?_
  obtain ⟨QQ, hQQ⟩ : ∃ QQ : UR → Prop, QQ = (fun q : UR => q.1 = some (.int r) ∧ h = q.2) := ⟨_, rfl⟩
  rw [← hQQ]
  have hQ : QQ (some (.int r), h) := by rw [hQQ]; exact ⟨rfl, rfl⟩
  clear hQQ
  show Ends (EX D) (u_at kl_228) (0, [some (.ref a0), some (.int p1), some (.int p2)], [], h) QQ
  refine en_segs [(0, .iload_n 2, [])] (by decide +kernel) (y := (1, [some (.ref a0), some (.int p1), some (.int p2)], [.int p2], h)) rfl ?_
  refine en_if_ne (by decide +kernel : u_at kl_228 1 = some (.ifCond .ne 9, [10])) (fun b1 => ?_) (fun b1 => ?_)
  · replace hF := i_pos b1 hF
    refine en_segs [(4, .aload_n 0, []), (5, .iload_n 1, [])] (by decide +kernel) (y := (6, [some (.ref a0), some (.int p1), some (.int p2)], [.int p1, .ref a0], h)) rfl ?_
    obtain ⟨r2, hr2, hF⟩ := ob_some hF
    refine en_vi (r := []) (by decide +kernel : u_at kl_228 6 = some (.invokevirtual 352, [226, 1, 12])) hW ha0 rfl rfl (Nat.le_of_ble_eq_true rfl) (e_226 (D := D) (by omega) hW ha0 hr2) (fun h' q => ?_)
    subst q
    obtain rfl := Option.some.inj hF
    exact en_ret (by decide +kernel : u_at kl_228 9 = some (.ireturn, [0])) rfl (hQ)
  · replace hF := i_neg b1 hF
    refine en_segs [(10, .aload_n 0, [])] (by decide +kernel) (y := (11, [some (.ref a0), some (.int p1), some (.int p2)], [.ref a0], h)) rfl ?_
    refine en_get (by decide +kernel : u_at kl_228 11 = some (.getfield 39, [12, 20])) hW ha0 (by decide) rfl ?_
    refine en_segs [(14, .iconst 4, [])] (by decide +kernel) (y := (15, [some (.ref a0), some (.int p1), some (.int p2)], [.int 4, .ref (aP d 12 20 a0)], h)) rfl ?_
    obtain ⟨v3, hv3, hF⟩ := ob_some hF
    refine en_iald (by decide +kernel : u_at kl_228 15 = some (.iaload, [])) hW ha0 rfl (by decide) hv3 ?_
    refine en_segs [(16, .iload_n 2, [])] (by decide +kernel) (y := (17, [some (.ref a0), some (.int p1), some (.int p2)], [.int p2, .int v3], h)) rfl ?_
    obtain ⟨t4, hX, hK⟩ := ob_some hF
    have j5 : Ends (EX D) (u_at kl_228) (52, [some (.ref a0), some (.int p1), some (.int p2)], [.int t4], h) QQ := by
      have hF := hK
      obtain rfl := Option.some.inj hF
      exact en_ret (by decide +kernel : u_at kl_228 52 = some (.ireturn, [0])) rfl (hQ)
    have hF := hX
    refine en_ic_ge (by decide +kernel : u_at kl_228 17 = some (.if_icmp .ge 11, [28])) (fun b6 => ?_) (fun b6 => ?_)
    · replace hF := i_pos b6 hF
      refine en_segs [(28, .aload_n 0, [])] (by decide +kernel) (y := (29, [some (.ref a0), some (.int p1), some (.int p2)], [.ref a0], h)) rfl ?_
      refine en_get (by decide +kernel : u_at kl_228 29 = some (.getfield 39, [12, 20])) hW ha0 (by decide) rfl ?_
      refine en_segs [(32, .bipush 112, []), (34, .bipush 6, []), (36, .aload_n 0, [])] (by decide +kernel) (y := (37, [some (.ref a0), some (.int p1), some (.int p2)], [.ref a0, .int 6, .int 112, .ref (aP d 12 20 a0)], h)) rfl ?_
      refine en_get (by decide +kernel : u_at kl_228 37 = some (.getfield 39, [12, 20])) hW ha0 (by decide) rfl ?_
      refine en_segs [(40, .iconst 4, [])] (by decide +kernel) (y := (41, [some (.ref a0), some (.int p1), some (.int p2)], [.int 4, .ref (aP d 12 20 a0), .int 6, .int 112, .ref (aP d 12 20 a0)], h)) rfl ?_
      obtain ⟨v7, hv7, hF⟩ := ob_some hF
      refine en_iald (by decide +kernel : u_at kl_228 41 = some (.iaload, [])) hW ha0 rfl (by decide) hv7 ?_
      refine en_segs [(42, .iload_n 2, []), (43, .isub, []), (44, .bipush 12, [])] (by decide +kernel) (y := (46, [some (.ref a0), some (.int p1), some (.int p2)], [.int 12, .int (v7 - p2), .int 6, .int 112, .ref (aP d 12 20 a0)], h)) rfl ?_
      obtain ⟨v8, hv8, hF⟩ := ob_some hF
      refine en_irem (by decide +kernel : u_at kl_228 46 = some (.irem, [])) hv8 ?_
      refine en_segs [(47, .imul, []), (48, .iadd, []), (49, .iload_n 1, []), (50, .iadd, [])] (by decide +kernel) (y := (51, [some (.ref a0), some (.int p1), some (.int p2)], [.int ((112 + (6 * v8)) + p1), .ref (aP d 12 20 a0)], h)) rfl ?_
      obtain ⟨v9, hv9, hF⟩ := ob_some hF
      refine en_iald (by decide +kernel : u_at kl_228 51 = some (.iaload, [])) hW ha0 rfl (by decide) hv9 ?_
      obtain rfl := Option.some.inj hF
      exact j5
    · replace hF := i_neg b6 hF
      refine en_segs [(20, .aload_n 0, []), (21, .iload_n 1, [])] (by decide +kernel) (y := (22, [some (.ref a0), some (.int p1), some (.int p2)], [.int p1, .ref a0], h)) rfl ?_
      obtain ⟨r10, hr10, hF⟩ := ob_some hF
      refine en_vi (r := []) (by decide +kernel : u_at kl_228 22 = some (.invokevirtual 355, [229, 1, 12])) hW ha0 rfl rfl (Nat.le_of_ble_eq_true rfl) (e_229 (D := D) (by omega) hW ha0 hr10) (fun h' q => ?_)
      subst q
      refine en_segs [(25, .goto 27, [52])] (by decide +kernel) (y := (52, [some (.ref a0), some (.int p1), some (.int p2)], [.int r10], h)) rfl ?_
      obtain rfl := Option.some.inj hF
      exact j5
def F_230 (c12 : Cl) (a0 : Nat) (p1 : Int32) : Option Int32 :=
  ald (cA c12 20 a0) 221 (76 + p1) >>= fun v1 =>
  F_228 c12 a0 p1 v1 >>= fun r2 =>
  some r2
set_option maxRecDepth 100000 in
set_option maxHeartbeats 4000000 in
/-- HeadCountsModel.feltOf -/
theorem e_230 {D : Nat} {c0 c1 c2 c3 c4 c5 c6 c7 c8 c9 c10 c11 c12 c13 : Cl} {d : Ad} {h : UH} {a0 : Nat} {p1 : Int32} {r : Int32} (hD : 6 ≤ D) (hW : HW (mkw c0 c1 c2 c3 c4 c5 c6 c7 c8 c9 c10 c11 c12 c13) d h) (ha0 : aK d a0 = (0, 12, 0)) (hF : F_230 c12 a0 p1 = some r) : ∃ q, EX D 230 [.ref a0, .int p1] h q ∧ q.1 = some (.int r) ∧ h = q.2 := by
  obtain ⟨D, rfl⟩ : ∃ E, D = E + 1 := ⟨D - 1, by omega⟩
  unfold F_230 at hF
  refine ex_in (kl := kl_230) (nL := 2) rfl (by decide +kernel) (Nat.le_of_ble_eq_true rfl) ?_
  obtain ⟨QQ, hQQ⟩ : ∃ QQ : UR → Prop, QQ = (fun q : UR => q.1 = some (.int r) ∧ h = q.2) := ⟨_, rfl⟩
  rw [← hQQ]
  have hQ : QQ (some (.int r), h) := by rw [hQQ]; exact ⟨rfl, rfl⟩
  clear hQQ
  show Ends (EX D) (u_at kl_230) (0, [some (.ref a0), some (.int p1)], [], h) QQ
  refine en_segs [(0, .aload_n 0, []), (1, .iload_n 1, []), (2, .aload_n 0, [])] (by decide +kernel) (y := (3, [some (.ref a0), some (.int p1)], [.ref a0, .int p1, .ref a0], h)) rfl ?_
  refine en_get (by decide +kernel : u_at kl_230 3 = some (.getfield 39, [12, 20])) hW ha0 (by decide) rfl ?_
  refine en_segs [(6, .bipush 76, []), (8, .iload_n 1, []), (9, .iadd, [])] (by decide +kernel) (y := (10, [some (.ref a0), some (.int p1)], [.int (76 + p1), .ref (aP d 12 20 a0), .int p1, .ref a0], h)) rfl ?_
  obtain ⟨v1, hv1, hF⟩ := ob_some hF
  refine en_iald (by decide +kernel : u_at kl_230 10 = some (.iaload, [])) hW ha0 rfl (by decide) hv1 ?_
  obtain ⟨r2, hr2, hF⟩ := ob_some hF
  refine en_vi (r := []) (by decide +kernel : u_at kl_230 11 = some (.invokevirtual 358, [228, 2, 12])) hW ha0 rfl rfl (Nat.le_of_ble_eq_true rfl) (e_228 (D := D) (by omega) hW ha0 hr2) (fun h' q => ?_)
  subst q
  obtain rfl := Option.some.inj hF
  exact en_ret (by decide +kernel : u_at kl_230 14 = some (.ireturn, [0])) rfl (hQ)
def G_231 (c12 : Cl) (a0 : Nat) (lab : Nat) (xs : List Int32) (ys : List Int64) (zs : List Nat) : Option Int32 := match lab, xs, ys, zs with
  | 0, [x1, x2, x3], [], [] =>
    ald (cA c12 20 a0) 221 0 >>= fun v1 =>
    if v1 ≤ x3 then
    some x2
    else
    ald (cA c12 20 a0) 221 (88 + x1) >>= fun v3 =>
    F_171 v3 x3 >>= fun r4 =>
    ((if r4 = 0 then
    some 0
    else
    F_230 c12 a0 x3 >>= fun r8 =>
    some r8) : Option (Int32)) >>= fun (t5 : Int32) =>
    G_231 c12 a0 0 [x1, x2 + t5, x3 + 1] [] []
  | _, _, _, _ => none
partial_fixpoint
set_option maxRecDepth 100000 in
set_option maxHeartbeats 4000000 in
theorem g_231 {D : Nat} (hD : 7 ≤ D + 1) {c0 c1 c2 c3 c4 c5 c6 c7 c8 c9 c10 c11 c12 c13 : Cl} {d : Ad} {a0 : Nat} (ha0 : aK d a0 = (0, 12, 0)) : ∀ (lab : Nat) (xs : List Int32) (ys : List Int64) (zs : List Nat) (r : Int32), G_231 c12 a0 lab xs ys zs = some r →
    (∀ (x1 : Int32) (x2 : Int32) (x3 : Int32), lab = 0 → xs = [x1, x2, x3] → ys = [] → zs = [] → ∀ h : UH, HW (mkw c0 c1 c2 c3 c4 c5 c6 c7 c8 c9 c10 c11 c12 c13) d h → ∀ QQ : UR → Prop, QQ (some (.int r), h) → Ends (EX D) (u_at kl_231) (4, [some (.ref a0), some (.int x1), some (.int x2), some (.int x3)], [], h) QQ) := by
  refine G_231.partial_correctness _ _ (motive := fun lab xs ys zs r =>
    (∀ (x1 : Int32) (x2 : Int32) (x3 : Int32), lab = 0 → xs = [x1, x2, x3] → ys = [] → zs = [] → ∀ h : UH, HW (mkw c0 c1 c2 c3 c4 c5 c6 c7 c8 c9 c10 c11 c12 c13) d h → ∀ QQ : UR → Prop, QQ (some (.int r), h) → Ends (EX D) (u_at kl_231) (4, [some (.ref a0), some (.int x1), some (.int x2), some (.int x3)], [], h) QQ)) ?_
  intro G ih lab xs ys zs r hF
  · intro x1 x2 x3 e1 e2 e3 e4 h hW QQ hQ
    subst e1 e2 e3 e4
    refine en_segs [(4, .iload_n 3, []), (5, .aload_n 0, [])] (by decide +kernel) (y := (6, [some (.ref a0), some (.int x1), some (.int x2), some (.int x3)], [.ref a0, .int x3], h)) rfl ?_
    refine en_get (by decide +kernel : u_at kl_231 6 = some (.getfield 39, [12, 20])) hW ha0 (by decide) rfl ?_
    refine en_segs [(9, .iconst 0, [])] (by decide +kernel) (y := (10, [some (.ref a0), some (.int x1), some (.int x2), some (.int x3)], [.int 0, .ref (aP d 12 20 a0), .int x3], h)) rfl ?_
    obtain ⟨v1, hv1, hF⟩ := ob_some hF
    refine en_iald (by decide +kernel : u_at kl_231 10 = some (.iaload, [])) hW ha0 rfl (by decide) hv1 ?_
    refine en_ic_ge (by decide +kernel : u_at kl_231 11 = some (.if_icmp .ge 37, [48])) (fun b2 => ?_) (fun b2 => ?_)
    · replace hF := i_pos b2 hF
      refine en_segs [(48, .iload_n 2, [])] (by decide +kernel) (y := (49, [some (.ref a0), some (.int x1), some (.int x2), some (.int x3)], [.int x2], h)) rfl ?_
      obtain rfl := Option.some.inj hF
      exact en_ret (by decide +kernel : u_at kl_231 49 = some (.ireturn, [0])) rfl (hQ)
    · replace hF := i_neg b2 hF
      refine en_segs [(14, .iload_n 2, []), (15, .aload_n 0, [])] (by decide +kernel) (y := (16, [some (.ref a0), some (.int x1), some (.int x2), some (.int x3)], [.ref a0, .int x2], h)) rfl ?_
      refine en_get (by decide +kernel : u_at kl_231 16 = some (.getfield 39, [12, 20])) hW ha0 (by decide) rfl ?_
      refine en_segs [(19, .bipush 88, []), (21, .iload_n 1, []), (22, .iadd, [])] (by decide +kernel) (y := (23, [some (.ref a0), some (.int x1), some (.int x2), some (.int x3)], [.int (88 + x1), .ref (aP d 12 20 a0), .int x2], h)) rfl ?_
      obtain ⟨v3, hv3, hF⟩ := ob_some hF
      refine en_iald (by decide +kernel : u_at kl_231 23 = some (.iaload, [])) hW ha0 rfl (by decide) hv3 ?_
      refine en_segs [(24, .iload_n 3, [])] (by decide +kernel) (y := (25, [some (.ref a0), some (.int x1), some (.int x2), some (.int x3)], [.int x3, .int v3, .int x2], h)) rfl ?_
      obtain ⟨r4, hr4, hF⟩ := ob_some hF
      refine en_si (r := [.int x2]) (by decide +kernel : u_at kl_231 25 = some (.invokestatic 361, [171, 2])) rfl rfl (Nat.le_of_ble_eq_true rfl) (e_171 (D := D) (by omega) hW hr4) (fun h' q => ?_)
      subst q
      obtain ⟨t5, hX, hK⟩ := ob_some hF
      have j6 : Ends (EX D) (u_at kl_231) (40, [some (.ref a0), some (.int x1), some (.int x2), some (.int x3)], [.int t5, .int x2], h) QQ := by
        have hF := hK
        refine en_segs [(40, .iadd, []), (41, .istore_n 2, []), (42, .iinc 3 1, []), (45, .goto (-41), [4])] (by decide +kernel) (y := (4, [some (.ref a0), some (.int x1), some (.int (x2 + t5)), some (.int (x3 + 1))], [], h)) rfl ?_
        exact (ih _ _ _ _ _ hF) _ _ _ rfl rfl rfl rfl  _ hW _ hQ
      have hF := hX
      refine en_if_eq (by decide +kernel : u_at kl_231 28 = some (.ifCond .eq 11, [39])) (fun b7 => ?_) (fun b7 => ?_)
      · replace hF := i_pos b7 hF
        refine en_segs [(39, .iconst 0, [])] (by decide +kernel) (y := (40, [some (.ref a0), some (.int x1), some (.int x2), some (.int x3)], [.int 0, .int x2], h)) rfl ?_
        obtain rfl := Option.some.inj hF
        exact j6
      · replace hF := i_neg b7 hF
        refine en_segs [(31, .aload_n 0, []), (32, .iload_n 3, [])] (by decide +kernel) (y := (33, [some (.ref a0), some (.int x1), some (.int x2), some (.int x3)], [.int x3, .ref a0, .int x2], h)) rfl ?_
        obtain ⟨r8, hr8, hF⟩ := ob_some hF
        refine en_vi (r := [.int x2]) (by decide +kernel : u_at kl_231 33 = some (.invokevirtual 364, [230, 1, 12])) hW ha0 rfl rfl (Nat.le_of_ble_eq_true rfl) (e_230 (D := D) (by omega) hW ha0 hr8) (fun h' q => ?_)
        subst q
        refine en_segs [(36, .goto 4, [40])] (by decide +kernel) (y := (40, [some (.ref a0), some (.int x1), some (.int x2), some (.int x3)], [.int r8, .int x2], h)) rfl ?_
        obtain rfl := Option.some.inj hF
        exact j6
def F_231 (c12 : Cl) (a0 : Nat) (p1 : Int32) : Option Int32 :=
  G_231 c12 a0 0 [p1, 0, 0] [] []
set_option maxRecDepth 100000 in
set_option maxHeartbeats 4000000 in
/-- HeadCountsModel.feltBy -/
theorem e_231 {D : Nat} {c0 c1 c2 c3 c4 c5 c6 c7 c8 c9 c10 c11 c12 c13 : Cl} {d : Ad} {h : UH} {a0 : Nat} {p1 : Int32} {r : Int32} (hD : 7 ≤ D) (hW : HW (mkw c0 c1 c2 c3 c4 c5 c6 c7 c8 c9 c10 c11 c12 c13) d h) (ha0 : aK d a0 = (0, 12, 0)) (hF : F_231 c12 a0 p1 = some r) : ∃ q, EX D 231 [.ref a0, .int p1] h q ∧ q.1 = some (.int r) ∧ h = q.2 := by
  obtain ⟨D, rfl⟩ : ∃ E, D = E + 1 := ⟨D - 1, by omega⟩
  unfold F_231 at hF
  refine ex_in (kl := kl_231) (nL := 4) rfl (by decide +kernel) (Nat.le_of_ble_eq_true rfl) ?_
  obtain ⟨QQ, hQQ⟩ : ∃ QQ : UR → Prop, QQ = (fun q : UR => q.1 = some (.int r) ∧ h = q.2) := ⟨_, rfl⟩
  rw [← hQQ]
  have hQ : QQ (some (.int r), h) := by rw [hQQ]; exact ⟨rfl, rfl⟩
  clear hQQ
  show Ends (EX D) (u_at kl_231) (0, [some (.ref a0), some (.int p1), none, none], [], h) QQ
  refine en_segs [(0, .iconst 0, []), (1, .istore_n 2, []), (2, .iconst 0, []), (3, .istore_n 3, [])] (by decide +kernel) (y := (4, [some (.ref a0), some (.int p1), some (.int 0), some (.int 0)], [], h)) rfl ?_
  exact (g_231 (D := D) hD ha0 _ _ _ _ _ hF) _ _ _ rfl rfl rfl rfl  _ hW _ hQ
def G_232 (c12 : Cl) (a0 : Nat) (lab : Nat) (xs : List Int32) (ys : List Int64) (zs : List Nat) : Option Int32 := match lab, xs, ys, zs with
  | 0, [x1, x2, x3], [], [] =>
    ald (cA c12 20 a0) 221 1 >>= fun v1 =>
    if v1 ≤ x3 then
    some x2
    else
    ald (cA c12 20 a0) 221 ((10 + (3 * x3)) + 2) >>= fun v3 =>
    ((if v3 = 0 then
    some x2
    else
    ald (cA c12 20 a0) 221 (10 + (3 * x3)) >>= fun v7 =>
    ((if v7 = x1 then
    ald (cA c12 20 a0) 221 ((10 + (3 * x3)) + 1) >>= fun v14 =>
    some (x2 ||| (1 <<< (v14 &&& 31)))
    else
    some x2) : Option (Int32)) >>= fun (t8 : Int32) =>
    ald (cA c12 20 a0) 221 ((10 + (3 * x3)) + 1) >>= fun v10 =>
    if v10 = x1 then
    ald (cA c12 20 a0) 221 (10 + (3 * x3)) >>= fun v12 =>
    some (t8 ||| (1 <<< (v12 &&& 31)))
    else
    some t8) : Option (Int32)) >>= fun (t4 : Int32) =>
    G_232 c12 a0 0 [x1, t4, x3 + 1] [] []
  | _, _, _, _ => none
partial_fixpoint
set_option maxRecDepth 100000 in
set_option maxHeartbeats 4000000 in
theorem g_232 {D : Nat} (hD : 1 ≤ D + 1) {c0 c1 c2 c3 c4 c5 c6 c7 c8 c9 c10 c11 c12 c13 : Cl} {d : Ad} {a0 : Nat} (ha0 : aK d a0 = (0, 12, 0)) : ∀ (lab : Nat) (xs : List Int32) (ys : List Int64) (zs : List Nat) (r : Int32), G_232 c12 a0 lab xs ys zs = some r →
    (∀ (x1 : Int32) (x2 : Int32) (x3 : Int32), lab = 0 → xs = [x1, x2, x3] → ys = [] → zs = [] → ∀ h : UH, HW (mkw c0 c1 c2 c3 c4 c5 c6 c7 c8 c9 c10 c11 c12 c13) d h → ∀ QQ : UR → Prop, QQ (some (.int r), h) → Ends (EX D) (u_at kl_232) (4, [some (.ref a0), some (.int x1), some (.int x2), some (.int x3), none], [], h) QQ) := by
  refine G_232.partial_correctness _ _ (motive := fun lab xs ys zs r =>
    (∀ (x1 : Int32) (x2 : Int32) (x3 : Int32), lab = 0 → xs = [x1, x2, x3] → ys = [] → zs = [] → ∀ h : UH, HW (mkw c0 c1 c2 c3 c4 c5 c6 c7 c8 c9 c10 c11 c12 c13) d h → ∀ QQ : UR → Prop, QQ (some (.int r), h) → Ends (EX D) (u_at kl_232) (4, [some (.ref a0), some (.int x1), some (.int x2), some (.int x3), none], [], h) QQ)) ?_
  intro G ih lab xs ys zs r hF
  · intro x1 x2 x3 e1 e2 e3 e4 h hW QQ hQ
    subst e1 e2 e3 e4
    refine en_segs [(4, .iload_n 3, []), (5, .aload_n 0, [])] (by decide +kernel) (y := (6, [some (.ref a0), some (.int x1), some (.int x2), some (.int x3), none], [.ref a0, .int x3], h)) rfl ?_
    refine en_get (by decide +kernel : u_at kl_232 6 = some (.getfield 39, [12, 20])) hW ha0 (by decide) rfl ?_
    refine en_segs [(9, .iconst 1, [])] (by decide +kernel) (y := (10, [some (.ref a0), some (.int x1), some (.int x2), some (.int x3), none], [.int 1, .ref (aP d 12 20 a0), .int x3], h)) rfl ?_
    obtain ⟨v1, hv1, hF⟩ := ob_some hF
    refine en_iald (by decide +kernel : u_at kl_232 10 = some (.iaload, [])) hW ha0 rfl (by decide) hv1 ?_
    refine en_ic_ge (by decide +kernel : u_at kl_232 11 = some (.if_icmp .ge 82, [93])) (fun b2 => ?_) (fun b2 => ?_)
    · replace hF := i_pos b2 hF
      refine en_segs [(93, .iload_n 2, [])] (by decide +kernel) (y := (94, [some (.ref a0), some (.int x1), some (.int x2), some (.int x3), none], [.int x2], h)) rfl ?_
      obtain rfl := Option.some.inj hF
      exact en_ret (by decide +kernel : u_at kl_232 94 = some (.ireturn, [0])) rfl (hQ)
    · replace hF := i_neg b2 hF
      refine en_segs [(14, .bipush 10, []), (16, .iconst 3, []), (17, .iload_n 3, []), (18, .imul, []), (19, .iadd, []), (20, .istore 4, []), (22, .aload_n 0, [])] (by decide +kernel) (y := (23, [some (.ref a0), some (.int x1), some (.int x2), some (.int x3), some (.int (10 + (3 * x3)))], [.ref a0], h)) rfl ?_
      refine en_get (by decide +kernel : u_at kl_232 23 = some (.getfield 39, [12, 20])) hW ha0 (by decide) rfl ?_
      refine en_segs [(26, .iload 4, []), (28, .iconst 2, []), (29, .iadd, [])] (by decide +kernel) (y := (30, [some (.ref a0), some (.int x1), some (.int x2), some (.int x3), some (.int (10 + (3 * x3)))], [.int ((10 + (3 * x3)) + 2), .ref (aP d 12 20 a0)], h)) rfl ?_
      obtain ⟨v3, hv3, hF⟩ := ob_some hF
      refine en_iald (by decide +kernel : u_at kl_232 30 = some (.iaload, [])) hW ha0 rfl (by decide) hv3 ?_
      obtain ⟨t4, hX, hK⟩ := ob_some hF
      have j5 : Ends (EX D) (u_at kl_232) (87, [some (.ref a0), some (.int x1), some (.int t4), some (.int x3), some (.int (10 + (3 * x3)))], [], h) QQ := by
        have hF := hK
        refine en_segs [(87, .iinc 3 1, []), (90, .goto (-86), [4])] (by decide +kernel) (y := (4, [some (.ref a0), some (.int x1), some (.int t4), some (.int (x3 + 1)), some (.int (10 + (3 * x3)))], [], h)) rfl ?_
        refine en_fg (fg_k (fg_k (fg_k (fg_k (fg_d fg_0))))) ?_
        exact (ih _ _ _ _ _ hF) _ _ _ rfl rfl rfl rfl  _ hW _ hQ
      have hF := hX
      refine en_if_ne (by decide +kernel : u_at kl_232 31 = some (.ifCond .ne 6, [37])) (fun b6 => ?_) (fun b6 => ?_)
      · replace hF := i_pos b6 hF
        refine en_segs [(34, .goto 53, [87])] (by decide +kernel) (y := (87, [some (.ref a0), some (.int x1), some (.int x2), some (.int x3), some (.int (10 + (3 * x3)))], [], h)) rfl ?_
        obtain rfl := Option.some.inj hF
        exact j5
      · replace hF := i_neg b6 hF
        refine en_segs [(37, .aload_n 0, [])] (by decide +kernel) (y := (38, [some (.ref a0), some (.int x1), some (.int x2), some (.int x3), some (.int (10 + (3 * x3)))], [.ref a0], h)) rfl ?_
        refine en_get (by decide +kernel : u_at kl_232 38 = some (.getfield 39, [12, 20])) hW ha0 (by decide) rfl ?_
        refine en_segs [(41, .iload 4, [])] (by decide +kernel) (y := (43, [some (.ref a0), some (.int x1), some (.int x2), some (.int x3), some (.int (10 + (3 * x3)))], [.int (10 + (3 * x3)), .ref (aP d 12 20 a0)], h)) rfl ?_
        obtain ⟨v7, hv7, hF⟩ := ob_some hF
        refine en_iald (by decide +kernel : u_at kl_232 43 = some (.iaload, [])) hW ha0 rfl (by decide) hv7 ?_
        refine en_segs [(44, .iload_n 1, [])] (by decide +kernel) (y := (45, [some (.ref a0), some (.int x1), some (.int x2), some (.int x3), some (.int (10 + (3 * x3)))], [.int x1, .int v7], h)) rfl ?_
        obtain ⟨t8, hX, hK⟩ := ob_some hF
        have j9 : Ends (EX D) (u_at kl_232) (62, [some (.ref a0), some (.int x1), some (.int t8), some (.int x3), some (.int (10 + (3 * x3)))], [], h) QQ := by
          have hF := hK
          refine en_segs [(62, .aload_n 0, [])] (by decide +kernel) (y := (63, [some (.ref a0), some (.int x1), some (.int t8), some (.int x3), some (.int (10 + (3 * x3)))], [.ref a0], h)) rfl ?_
          refine en_get (by decide +kernel : u_at kl_232 63 = some (.getfield 39, [12, 20])) hW ha0 (by decide) rfl ?_
          refine en_segs [(66, .iload 4, []), (68, .iconst 1, []), (69, .iadd, [])] (by decide +kernel) (y := (70, [some (.ref a0), some (.int x1), some (.int t8), some (.int x3), some (.int (10 + (3 * x3)))], [.int ((10 + (3 * x3)) + 1), .ref (aP d 12 20 a0)], h)) rfl ?_
          obtain ⟨v10, hv10, hF⟩ := ob_some hF
          refine en_iald (by decide +kernel : u_at kl_232 70 = some (.iaload, [])) hW ha0 rfl (by decide) hv10 ?_
          refine en_segs [(71, .iload_n 1, [])] (by decide +kernel) (y := (72, [some (.ref a0), some (.int x1), some (.int t8), some (.int x3), some (.int (10 + (3 * x3)))], [.int x1, .int v10], h)) rfl ?_
          refine en_ic_ne (by decide +kernel : u_at kl_232 72 = some (.if_icmp .ne 15, [87])) (fun b11 => ?_) (fun b11 => ?_)
          · replace hF := i_pos b11 hF
            refine en_segs [(75, .iload_n 2, []), (76, .iconst 1, []), (77, .aload_n 0, [])] (by decide +kernel) (y := (78, [some (.ref a0), some (.int x1), some (.int t8), some (.int x3), some (.int (10 + (3 * x3)))], [.ref a0, .int 1, .int t8], h)) rfl ?_
            refine en_get (by decide +kernel : u_at kl_232 78 = some (.getfield 39, [12, 20])) hW ha0 (by decide) rfl ?_
            refine en_segs [(81, .iload 4, [])] (by decide +kernel) (y := (83, [some (.ref a0), some (.int x1), some (.int t8), some (.int x3), some (.int (10 + (3 * x3)))], [.int (10 + (3 * x3)), .ref (aP d 12 20 a0), .int 1, .int t8], h)) rfl ?_
            obtain ⟨v12, hv12, hF⟩ := ob_some hF
            refine en_iald (by decide +kernel : u_at kl_232 83 = some (.iaload, [])) hW ha0 rfl (by decide) hv12 ?_
            refine en_segs [(84, .ishl, []), (85, .ior, []), (86, .istore_n 2, [])] (by decide +kernel) (y := (87, [some (.ref a0), some (.int x1), some (.int (t8 ||| (1 <<< (v12 &&& 31)))), some (.int x3), some (.int (10 + (3 * x3)))], [], h)) rfl ?_
            obtain rfl := Option.some.inj hF
            exact j5
          · replace hF := i_neg b11 hF
            obtain rfl := Option.some.inj hF
            exact j5
        have hF := hX
        refine en_ic_ne (by decide +kernel : u_at kl_232 45 = some (.if_icmp .ne 17, [62])) (fun b13 => ?_) (fun b13 => ?_)
        · replace hF := i_pos b13 hF
          refine en_segs [(48, .iload_n 2, []), (49, .iconst 1, []), (50, .aload_n 0, [])] (by decide +kernel) (y := (51, [some (.ref a0), some (.int x1), some (.int x2), some (.int x3), some (.int (10 + (3 * x3)))], [.ref a0, .int 1, .int x2], h)) rfl ?_
          refine en_get (by decide +kernel : u_at kl_232 51 = some (.getfield 39, [12, 20])) hW ha0 (by decide) rfl ?_
          refine en_segs [(54, .iload 4, []), (56, .iconst 1, []), (57, .iadd, [])] (by decide +kernel) (y := (58, [some (.ref a0), some (.int x1), some (.int x2), some (.int x3), some (.int (10 + (3 * x3)))], [.int ((10 + (3 * x3)) + 1), .ref (aP d 12 20 a0), .int 1, .int x2], h)) rfl ?_
          obtain ⟨v14, hv14, hF⟩ := ob_some hF
          refine en_iald (by decide +kernel : u_at kl_232 58 = some (.iaload, [])) hW ha0 rfl (by decide) hv14 ?_
          refine en_segs [(59, .ishl, []), (60, .ior, []), (61, .istore_n 2, [])] (by decide +kernel) (y := (62, [some (.ref a0), some (.int x1), some (.int (x2 ||| (1 <<< (v14 &&& 31)))), some (.int x3), some (.int (10 + (3 * x3)))], [], h)) rfl ?_
          obtain rfl := Option.some.inj hF
          exact j9
        · replace hF := i_neg b13 hF
          obtain rfl := Option.some.inj hF
          exact j9
def F_232 (c12 : Cl) (a0 : Nat) (p1 : Int32) : Option Int32 :=
  G_232 c12 a0 0 [p1, 0, 0] [] []
set_option maxRecDepth 100000 in
set_option maxHeartbeats 4000000 in
/-- HeadCountsModel.besides -/
theorem e_232 {D : Nat} {c0 c1 c2 c3 c4 c5 c6 c7 c8 c9 c10 c11 c12 c13 : Cl} {d : Ad} {h : UH} {a0 : Nat} {p1 : Int32} {r : Int32} (hD : 1 ≤ D) (hW : HW (mkw c0 c1 c2 c3 c4 c5 c6 c7 c8 c9 c10 c11 c12 c13) d h) (ha0 : aK d a0 = (0, 12, 0)) (hF : F_232 c12 a0 p1 = some r) : ∃ q, EX D 232 [.ref a0, .int p1] h q ∧ q.1 = some (.int r) ∧ h = q.2 := by
  obtain ⟨D, rfl⟩ : ∃ E, D = E + 1 := ⟨D - 1, by omega⟩
  unfold F_232 at hF
  refine ex_in (kl := kl_232) (nL := 5) rfl (by decide +kernel) (Nat.le_of_ble_eq_true rfl) ?_
  obtain ⟨QQ, hQQ⟩ : ∃ QQ : UR → Prop, QQ = (fun q : UR => q.1 = some (.int r) ∧ h = q.2) := ⟨_, rfl⟩
  rw [← hQQ]
  have hQ : QQ (some (.int r), h) := by rw [hQQ]; exact ⟨rfl, rfl⟩
  clear hQQ
  show Ends (EX D) (u_at kl_232) (0, [some (.ref a0), some (.int p1), none, none, none], [], h) QQ
  refine en_segs [(0, .iconst 0, []), (1, .istore_n 2, []), (2, .iconst 0, []), (3, .istore_n 3, [])] (by decide +kernel) (y := (4, [some (.ref a0), some (.int p1), some (.int 0), some (.int 0), none], [], h)) rfl ?_
  exact (g_232 (D := D) hD ha0 _ _ _ _ _ hF) _ _ _ rfl rfl rfl rfl  _ hW _ hQ
def F_233 (c12 : Cl) (a0 : Nat) (p1 : Int32) (p2 : Int32) : Option Int32 :=
  F_221 c12 a0 p1 >>= fun r1 =>
  if r1 = 0 then
  some (-1)
  else
  F_170 ((p2 : Int32).toInt64) 0 5 >>= fun r3 =>
  if r3 = 0 then
  some (-1)
  else
  ((if 5 ≤ p2 then
  F_224 c12 a0 p1 >>= fun r8 =>
  if r8 = 0 then
  F_225 c12 a0 p1 >>= fun r10 =>
  if r10 = 0 then
  some 2
  else
  some 1
  else
  some 0
  else
  F_223 c12 a0 p1 p2 >>= fun r12 =>
  some r12) : Option (Int32)) >>= fun (t5 : Int32) =>
  some t5
set_option maxRecDepth 100000 in
set_option maxHeartbeats 4000000 in
/-- HeadCountsModel.head -/
theorem e_233 {D : Nat} {c0 c1 c2 c3 c4 c5 c6 c7 c8 c9 c10 c11 c12 c13 : Cl} {d : Ad} {h : UH} {a0 : Nat} {p1 : Int32} {p2 : Int32} {r : Int32} (hD : 4 ≤ D) (hW : HW (mkw c0 c1 c2 c3 c4 c5 c6 c7 c8 c9 c10 c11 c12 c13) d h) (ha0 : aK d a0 = (0, 12, 0)) (hF : F_233 c12 a0 p1 p2 = some r) : ∃ q, EX D 233 [.ref a0, .int p1, .int p2] h q ∧ q.1 = some (.int r) ∧ h = q.2 := by
  obtain ⟨D, rfl⟩ : ∃ E, D = E + 1 := ⟨D - 1, by omega⟩
  unfold F_233 at hF
  refine ex_in (kl := kl_233) (nL := 3) rfl (by decide +kernel) (Nat.le_of_ble_eq_true rfl) ?_
  obtain ⟨QQ, hQQ⟩ : ∃ QQ : UR → Prop, QQ = (fun q : UR => q.1 = some (.int r) ∧ h = q.2) := ⟨_, rfl⟩
  rw [← hQQ]
  have hQ : QQ (some (.int r), h) := by rw [hQQ]; exact ⟨rfl, rfl⟩
  clear hQQ
  show Ends (EX D) (u_at kl_233) (0, [some (.ref a0), some (.int p1), some (.int p2)], [], h) QQ
  refine en_segs [(0, .aload_n 0, []), (1, .iload_n 1, [])] (by decide +kernel) (y := (2, [some (.ref a0), some (.int p1), some (.int p2)], [.int p1, .ref a0], h)) rfl ?_
  obtain ⟨r1, hr1, hF⟩ := ob_some hF
  refine en_vi (r := []) (by decide +kernel : u_at kl_233 2 = some (.invokevirtual 367, [221, 1, 12])) hW ha0 rfl rfl (Nat.le_of_ble_eq_true rfl) (e_221 (D := D) (by omega) hW ha0 hr1) (fun h' q => ?_)
  subst q
  refine en_if_eq (by decide +kernel : u_at kl_233 5 = some (.ifCond .eq 15, [20])) (fun b2 => ?_) (fun b2 => ?_)
  · replace hF := i_pos b2 hF
    refine en_segs [(20, .iconst (-1), [])] (by decide +kernel) (y := (21, [some (.ref a0), some (.int p1), some (.int p2)], [.int (-1)], h)) rfl ?_
    obtain rfl := Option.some.inj hF
    exact en_ret (by decide +kernel : u_at kl_233 21 = some (.ireturn, [0])) rfl (hQ)
  · replace hF := i_neg b2 hF
    refine en_segs [(8, .iload_n 2, []), (9, .i2l, []), (10, .lconst 0, []), (11, .ldc2_w 370, [5])] (by decide +kernel) (y := (14, [some (.ref a0), some (.int p1), some (.int p2)], [.long 5, .long 0, .long ((p2 : Int32).toInt64)], h)) rfl ?_
    obtain ⟨r3, hr3, hF⟩ := ob_some hF
    refine en_si (r := []) (by decide +kernel : u_at kl_233 14 = some (.invokestatic 161, [170, 3])) rfl rfl (Nat.le_of_ble_eq_true rfl) (e_170 (D := D) (by omega) hW hr3) (fun h' q => ?_)
    subst q
    refine en_if_ne (by decide +kernel : u_at kl_233 17 = some (.ifCond .ne 5, [22])) (fun b4 => ?_) (fun b4 => ?_)
    · replace hF := i_pos b4 hF
      refine en_segs [(20, .iconst (-1), [])] (by decide +kernel) (y := (21, [some (.ref a0), some (.int p1), some (.int p2)], [.int (-1)], h)) rfl ?_
      obtain rfl := Option.some.inj hF
      exact en_ret (by decide +kernel : u_at kl_233 21 = some (.ireturn, [0])) rfl (hQ)
    · replace hF := i_neg b4 hF
      refine en_segs [(22, .iload_n 2, []), (23, .iconst 5, [])] (by decide +kernel) (y := (24, [some (.ref a0), some (.int p1), some (.int p2)], [.int 5, .int p2], h)) rfl ?_
      obtain ⟨t5, hX, hK⟩ := ob_some hF
      have j6 : Ends (EX D) (u_at kl_233) (61, [some (.ref a0), some (.int p1), some (.int p2)], [.int t5], h) QQ := by
        have hF := hK
        obtain rfl := Option.some.inj hF
        exact en_ret (by decide +kernel : u_at kl_233 61 = some (.ireturn, [0])) rfl (hQ)
      have hF := hX
      refine en_ic_ge (by decide +kernel : u_at kl_233 24 = some (.if_icmp .ge 12, [36])) (fun b7 => ?_) (fun b7 => ?_)
      · replace hF := i_pos b7 hF
        refine en_segs [(36, .aload_n 0, []), (37, .iload_n 1, [])] (by decide +kernel) (y := (38, [some (.ref a0), some (.int p1), some (.int p2)], [.int p1, .ref a0], h)) rfl ?_
        obtain ⟨r8, hr8, hF⟩ := ob_some hF
        refine en_vi (r := []) (by decide +kernel : u_at kl_233 38 = some (.invokevirtual 346, [224, 1, 12])) hW ha0 rfl rfl (Nat.le_of_ble_eq_true rfl) (e_224 (D := D) (by omega) hW ha0 hr8) (fun h' q => ?_)
        subst q
        refine en_if_eq (by decide +kernel : u_at kl_233 41 = some (.ifCond .eq 7, [48])) (fun b9 => ?_) (fun b9 => ?_)
        · replace hF := i_pos b9 hF
          refine en_segs [(48, .aload_n 0, []), (49, .iload_n 1, [])] (by decide +kernel) (y := (50, [some (.ref a0), some (.int p1), some (.int p2)], [.int p1, .ref a0], h)) rfl ?_
          obtain ⟨r10, hr10, hF⟩ := ob_some hF
          refine en_vi (r := []) (by decide +kernel : u_at kl_233 50 = some (.invokevirtual 349, [225, 1, 12])) hW ha0 rfl rfl (Nat.le_of_ble_eq_true rfl) (e_225 (D := D) (by omega) hW ha0 hr10) (fun h' q => ?_)
          subst q
          refine en_if_eq (by decide +kernel : u_at kl_233 53 = some (.ifCond .eq 7, [60])) (fun b11 => ?_) (fun b11 => ?_)
          · replace hF := i_pos b11 hF
            refine en_segs [(60, .iconst 2, [])] (by decide +kernel) (y := (61, [some (.ref a0), some (.int p1), some (.int p2)], [.int 2], h)) rfl ?_
            obtain rfl := Option.some.inj hF
            exact j6
          · replace hF := i_neg b11 hF
            refine en_segs [(56, .iconst 1, []), (57, .goto 4, [61])] (by decide +kernel) (y := (61, [some (.ref a0), some (.int p1), some (.int p2)], [.int 1], h)) rfl ?_
            obtain rfl := Option.some.inj hF
            exact j6
        · replace hF := i_neg b9 hF
          refine en_segs [(44, .iconst 0, []), (45, .goto 16, [61])] (by decide +kernel) (y := (61, [some (.ref a0), some (.int p1), some (.int p2)], [.int 0], h)) rfl ?_
          obtain rfl := Option.some.inj hF
          exact j6
      · replace hF := i_neg b7 hF
        refine en_segs [(27, .aload_n 0, []), (28, .iload_n 1, []), (29, .iload_n 2, [])] (by decide +kernel) (y := (30, [some (.ref a0), some (.int p1), some (.int p2)], [.int p2, .int p1, .ref a0], h)) rfl ?_
        obtain ⟨r12, hr12, hF⟩ := ob_some hF
        refine en_vi (r := []) (by decide +kernel : u_at kl_233 30 = some (.invokevirtual 343, [223, 2, 12])) hW ha0 rfl rfl (Nat.le_of_ble_eq_true rfl) (e_223 (D := D) (by omega) hW ha0 hr12) (fun h' q => ?_)
        subst q
        refine en_segs [(33, .goto 28, [61])] (by decide +kernel) (y := (61, [some (.ref a0), some (.int p1), some (.int p2)], [.int r12], h)) rfl ?_
        obtain rfl := Option.some.inj hF
        exact j6
def G_234 (c12 : Cl) (a0 : Nat) (lab : Nat) (xs : List Int32) (ys : List Int64) (zs : List Nat) : Option Int32 := match lab, xs, ys, zs with
  | 0, [x1, x2, x3], [], [] =>
    ald (cA c12 20 a0) 221 2 >>= fun v1 =>
    if v1 ≤ x3 then
    some x2
    else
    F_224 c12 a0 x3 >>= fun r3 =>
    ((if r3 = 0 then
    some 0
    else
    F_223 c12 a0 x3 0 >>= fun r7 =>
    if r7 = x1 then
    some (1 <<< (x3 &&& 31))
    else
    some 0) : Option (Int32)) >>= fun (t4 : Int32) =>
    G_234 c12 a0 0 [x1, x2 ||| t4, x3 + 1] [] []
  | _, _, _, _ => none
partial_fixpoint
set_option maxRecDepth 100000 in
set_option maxHeartbeats 4000000 in
theorem g_234 {D : Nat} (hD : 3 ≤ D + 1) {c0 c1 c2 c3 c4 c5 c6 c7 c8 c9 c10 c11 c12 c13 : Cl} {d : Ad} {a0 : Nat} (ha0 : aK d a0 = (0, 12, 0)) : ∀ (lab : Nat) (xs : List Int32) (ys : List Int64) (zs : List Nat) (r : Int32), G_234 c12 a0 lab xs ys zs = some r →
    (∀ (x1 : Int32) (x2 : Int32) (x3 : Int32), lab = 0 → xs = [x1, x2, x3] → ys = [] → zs = [] → ∀ h : UH, HW (mkw c0 c1 c2 c3 c4 c5 c6 c7 c8 c9 c10 c11 c12 c13) d h → ∀ QQ : UR → Prop, QQ (some (.int r), h) → Ends (EX D) (u_at kl_234) (4, [some (.ref a0), some (.int x1), some (.int x2), some (.int x3)], [], h) QQ) := by
  refine G_234.partial_correctness _ _ (motive := fun lab xs ys zs r =>
    (∀ (x1 : Int32) (x2 : Int32) (x3 : Int32), lab = 0 → xs = [x1, x2, x3] → ys = [] → zs = [] → ∀ h : UH, HW (mkw c0 c1 c2 c3 c4 c5 c6 c7 c8 c9 c10 c11 c12 c13) d h → ∀ QQ : UR → Prop, QQ (some (.int r), h) → Ends (EX D) (u_at kl_234) (4, [some (.ref a0), some (.int x1), some (.int x2), some (.int x3)], [], h) QQ)) ?_
  intro G ih lab xs ys zs r hF
  · intro x1 x2 x3 e1 e2 e3 e4 h hW QQ hQ
    subst e1 e2 e3 e4
    refine en_segs [(4, .iload_n 3, []), (5, .aload_n 0, [])] (by decide +kernel) (y := (6, [some (.ref a0), some (.int x1), some (.int x2), some (.int x3)], [.ref a0, .int x3], h)) rfl ?_
    refine en_get (by decide +kernel : u_at kl_234 6 = some (.getfield 39, [12, 20])) hW ha0 (by decide) rfl ?_
    refine en_segs [(9, .iconst 2, [])] (by decide +kernel) (y := (10, [some (.ref a0), some (.int x1), some (.int x2), some (.int x3)], [.int 2, .ref (aP d 12 20 a0), .int x3], h)) rfl ?_
    obtain ⟨v1, hv1, hF⟩ := ob_some hF
    refine en_iald (by decide +kernel : u_at kl_234 10 = some (.iaload, [])) hW ha0 rfl (by decide) hv1 ?_
    refine en_ic_ge (by decide +kernel : u_at kl_234 11 = some (.if_icmp .ge 37, [48])) (fun b2 => ?_) (fun b2 => ?_)
    · replace hF := i_pos b2 hF
      refine en_segs [(48, .iload_n 2, [])] (by decide +kernel) (y := (49, [some (.ref a0), some (.int x1), some (.int x2), some (.int x3)], [.int x2], h)) rfl ?_
      obtain rfl := Option.some.inj hF
      exact en_ret (by decide +kernel : u_at kl_234 49 = some (.ireturn, [0])) rfl (hQ)
    · replace hF := i_neg b2 hF
      refine en_segs [(14, .iload_n 2, []), (15, .aload_n 0, []), (16, .iload_n 3, [])] (by decide +kernel) (y := (17, [some (.ref a0), some (.int x1), some (.int x2), some (.int x3)], [.int x3, .ref a0, .int x2], h)) rfl ?_
      obtain ⟨r3, hr3, hF⟩ := ob_some hF
      refine en_vi (r := [.int x2]) (by decide +kernel : u_at kl_234 17 = some (.invokevirtual 346, [224, 1, 12])) hW ha0 rfl rfl (Nat.le_of_ble_eq_true rfl) (e_224 (D := D) (by omega) hW ha0 hr3) (fun h' q => ?_)
      subst q
      obtain ⟨t4, hX, hK⟩ := ob_some hF
      have j5 : Ends (EX D) (u_at kl_234) (40, [some (.ref a0), some (.int x1), some (.int x2), some (.int x3)], [.int t4, .int x2], h) QQ := by
        have hF := hK
        refine en_segs [(40, .ior, []), (41, .istore_n 2, []), (42, .iinc 3 1, []), (45, .goto (-41), [4])] (by decide +kernel) (y := (4, [some (.ref a0), some (.int x1), some (.int (x2 ||| t4)), some (.int (x3 + 1))], [], h)) rfl ?_
        exact (ih _ _ _ _ _ hF) _ _ _ rfl rfl rfl rfl  _ hW _ hQ
      have hF := hX
      refine en_if_eq (by decide +kernel : u_at kl_234 20 = some (.ifCond .eq 19, [39])) (fun b6 => ?_) (fun b6 => ?_)
      · replace hF := i_pos b6 hF
        refine en_segs [(39, .iconst 0, [])] (by decide +kernel) (y := (40, [some (.ref a0), some (.int x1), some (.int x2), some (.int x3)], [.int 0, .int x2], h)) rfl ?_
        obtain rfl := Option.some.inj hF
        exact j5
      · replace hF := i_neg b6 hF
        refine en_segs [(23, .aload_n 0, []), (24, .iload_n 3, []), (25, .iconst 0, [])] (by decide +kernel) (y := (26, [some (.ref a0), some (.int x1), some (.int x2), some (.int x3)], [.int 0, .int x3, .ref a0, .int x2], h)) rfl ?_
        obtain ⟨r7, hr7, hF⟩ := ob_some hF
        refine en_vi (r := [.int x2]) (by decide +kernel : u_at kl_234 26 = some (.invokevirtual 343, [223, 2, 12])) hW ha0 rfl rfl (Nat.le_of_ble_eq_true rfl) (e_223 (D := D) (by omega) hW ha0 hr7) (fun h' q => ?_)
        subst q
        refine en_segs [(29, .iload_n 1, [])] (by decide +kernel) (y := (30, [some (.ref a0), some (.int x1), some (.int x2), some (.int x3)], [.int x1, .int r7, .int x2], h)) rfl ?_
        refine en_ic_ne (by decide +kernel : u_at kl_234 30 = some (.if_icmp .ne 9, [39])) (fun b8 => ?_) (fun b8 => ?_)
        · replace hF := i_pos b8 hF
          refine en_segs [(33, .iconst 1, []), (34, .iload_n 3, []), (35, .ishl, []), (36, .goto 4, [40])] (by decide +kernel) (y := (40, [some (.ref a0), some (.int x1), some (.int x2), some (.int x3)], [.int (1 <<< (x3 &&& 31)), .int x2], h)) rfl ?_
          obtain rfl := Option.some.inj hF
          exact j5
        · replace hF := i_neg b8 hF
          refine en_segs [(39, .iconst 0, [])] (by decide +kernel) (y := (40, [some (.ref a0), some (.int x1), some (.int x2), some (.int x3)], [.int 0, .int x2], h)) rfl ?_
          obtain rfl := Option.some.inj hF
          exact j5
def F_234 (c12 : Cl) (a0 : Nat) (p1 : Int32) : Option Int32 :=
  G_234 c12 a0 0 [p1, 0, 0] [] []
set_option maxRecDepth 100000 in
set_option maxHeartbeats 4000000 in
/-- HeadCountsModel.livingIn -/
theorem e_234 {D : Nat} {c0 c1 c2 c3 c4 c5 c6 c7 c8 c9 c10 c11 c12 c13 : Cl} {d : Ad} {h : UH} {a0 : Nat} {p1 : Int32} {r : Int32} (hD : 3 ≤ D) (hW : HW (mkw c0 c1 c2 c3 c4 c5 c6 c7 c8 c9 c10 c11 c12 c13) d h) (ha0 : aK d a0 = (0, 12, 0)) (hF : F_234 c12 a0 p1 = some r) : ∃ q, EX D 234 [.ref a0, .int p1] h q ∧ q.1 = some (.int r) ∧ h = q.2 := by
  obtain ⟨D, rfl⟩ : ∃ E, D = E + 1 := ⟨D - 1, by omega⟩
  unfold F_234 at hF
  refine ex_in (kl := kl_234) (nL := 4) rfl (by decide +kernel) (Nat.le_of_ble_eq_true rfl) ?_
  obtain ⟨QQ, hQQ⟩ : ∃ QQ : UR → Prop, QQ = (fun q : UR => q.1 = some (.int r) ∧ h = q.2) := ⟨_, rfl⟩
  rw [← hQQ]
  have hQ : QQ (some (.int r), h) := by rw [hQQ]; exact ⟨rfl, rfl⟩
  clear hQQ
  show Ends (EX D) (u_at kl_234) (0, [some (.ref a0), some (.int p1), none, none], [], h) QQ
  refine en_segs [(0, .iconst 0, []), (1, .istore_n 2, []), (2, .iconst 0, []), (3, .istore_n 3, [])] (by decide +kernel) (y := (4, [some (.ref a0), some (.int p1), some (.int 0), some (.int 0)], [], h)) rfl ?_
  exact (g_234 (D := D) hD ha0 _ _ _ _ _ hF) _ _ _ rfl rfl rfl rfl  _ hW _ hQ
def F_235 (c12 : Cl) (a0 : Nat) (p1 : Int32) (p2 : Int32) : Option Int32 :=
  F_219 c12 a0 p1 >>= fun r1 =>
  if r1 = 0 then
  some (-1)
  else
  if p2 = 0 then
  F_226 c12 a0 p1 >>= fun r4 =>
  some r4
  else
  if p2 = 1 then
  F_230 c12 a0 p1 >>= fun r6 =>
  some r6
  else
  if p2 = 2 then
  F_234 c12 a0 p1 >>= fun r8 =>
  some r8
  else
  if p2 = 3 then
  ald (cA c12 20 a0) 221 (82 + p1) >>= fun v10 =>
  some v10
  else
  if p2 = 4 then
  ald (cA c12 20 a0) 221 (76 + p1) >>= fun v12 =>
  some v12
  else
  if p2 = 5 then
  F_232 c12 a0 p1 >>= fun r14 =>
  some r14
  else
  some (-1)
set_option maxRecDepth 100000 in
set_option maxHeartbeats 4000000 in
/-- HeadCountsModel.room -/
theorem e_235 {D : Nat} {c0 c1 c2 c3 c4 c5 c6 c7 c8 c9 c10 c11 c12 c13 : Cl} {d : Ad} {h : UH} {a0 : Nat} {p1 : Int32} {p2 : Int32} {r : Int32} (hD : 7 ≤ D) (hW : HW (mkw c0 c1 c2 c3 c4 c5 c6 c7 c8 c9 c10 c11 c12 c13) d h) (ha0 : aK d a0 = (0, 12, 0)) (hF : F_235 c12 a0 p1 p2 = some r) : ∃ q, EX D 235 [.ref a0, .int p1, .int p2] h q ∧ q.1 = some (.int r) ∧ h = q.2 := by
  obtain ⟨D, rfl⟩ : ∃ E, D = E + 1 := ⟨D - 1, by omega⟩
  unfold F_235 at hF
  refine ex_in (kl := kl_235) (nL := 3) rfl (by decide +kernel) (Nat.le_of_ble_eq_true rfl) ?_
  obtain ⟨QQ, hQQ⟩ : ∃ QQ : UR → Prop, QQ = (fun q : UR => q.1 = some (.int r) ∧ h = q.2) := ⟨_, rfl⟩
  rw [← hQQ]
  have hQ : QQ (some (.int r), h) := by rw [hQQ]; exact ⟨rfl, rfl⟩
  clear hQQ
  show Ends (EX D) (u_at kl_235) (0, [some (.ref a0), some (.int p1), some (.int p2)], [], h) QQ
  refine en_segs [(0, .aload_n 0, []), (1, .iload_n 1, [])] (by decide +kernel) (y := (2, [some (.ref a0), some (.int p1), some (.int p2)], [.int p1, .ref a0], h)) rfl ?_
  obtain ⟨r1, hr1, hF⟩ := ob_some hF
  refine en_vi (r := []) (by decide +kernel : u_at kl_235 2 = some (.invokevirtual 372, [219, 1, 12])) hW ha0 rfl rfl (Nat.le_of_ble_eq_true rfl) (e_219 (D := D) (by omega) hW ha0 hr1) (fun h' q => ?_)
  subst q
  refine en_if_ne (by decide +kernel : u_at kl_235 5 = some (.ifCond .ne 5, [10])) (fun b2 => ?_) (fun b2 => ?_)
  · replace hF := i_pos b2 hF
    refine en_segs [(8, .iconst (-1), [])] (by decide +kernel) (y := (9, [some (.ref a0), some (.int p1), some (.int p2)], [.int (-1)], h)) rfl ?_
    obtain rfl := Option.some.inj hF
    exact en_ret (by decide +kernel : u_at kl_235 9 = some (.ireturn, [0])) rfl (hQ)
  · replace hF := i_neg b2 hF
    refine en_segs [(10, .iload_n 2, [])] (by decide +kernel) (y := (11, [some (.ref a0), some (.int p1), some (.int p2)], [.int p2], h)) rfl ?_
    by_cases b3 : p2 = 0
    · replace hF := i_pos b3 hF
      refine en_tsC (by decide +kernel : u_at kl_235 11 = some (.tableswitch 81 0 5 #[37, 43, 49, 55, 65, 75], [92, 48, 54, 60, 66, 76, 86])) (by rw [b3]; decide) (u := 48) (by rw [b3]; rfl) ?_
      refine en_segs [(48, .aload_n 0, []), (49, .iload_n 1, [])] (by decide +kernel) (y := (50, [some (.ref a0), some (.int p1), some (.int p2)], [.int p1, .ref a0], h)) rfl ?_
      obtain ⟨r4, hr4, hF⟩ := ob_some hF
      refine en_vi (r := []) (by decide +kernel : u_at kl_235 50 = some (.invokevirtual 352, [226, 1, 12])) hW ha0 rfl rfl (Nat.le_of_ble_eq_true rfl) (e_226 (D := D) (by omega) hW ha0 hr4) (fun h' q => ?_)
      subst q
      obtain rfl := Option.some.inj hF
      exact en_ret (by decide +kernel : u_at kl_235 53 = some (.ireturn, [0])) rfl (hQ)
    · replace hF := i_neg b3 hF
      by_cases b5 : p2 = 1
      · replace hF := i_pos b5 hF
        refine en_tsC (by decide +kernel : u_at kl_235 11 = some (.tableswitch 81 0 5 #[37, 43, 49, 55, 65, 75], [92, 48, 54, 60, 66, 76, 86])) (by rw [b5]; decide) (u := 54) (by rw [b5]; rfl) ?_
        refine en_segs [(54, .aload_n 0, []), (55, .iload_n 1, [])] (by decide +kernel) (y := (56, [some (.ref a0), some (.int p1), some (.int p2)], [.int p1, .ref a0], h)) rfl ?_
        obtain ⟨r6, hr6, hF⟩ := ob_some hF
        refine en_vi (r := []) (by decide +kernel : u_at kl_235 56 = some (.invokevirtual 364, [230, 1, 12])) hW ha0 rfl rfl (Nat.le_of_ble_eq_true rfl) (e_230 (D := D) (by omega) hW ha0 hr6) (fun h' q => ?_)
        subst q
        obtain rfl := Option.some.inj hF
        exact en_ret (by decide +kernel : u_at kl_235 59 = some (.ireturn, [0])) rfl (hQ)
      · replace hF := i_neg b5 hF
        by_cases b7 : p2 = 2
        · replace hF := i_pos b7 hF
          refine en_tsC (by decide +kernel : u_at kl_235 11 = some (.tableswitch 81 0 5 #[37, 43, 49, 55, 65, 75], [92, 48, 54, 60, 66, 76, 86])) (by rw [b7]; decide) (u := 60) (by rw [b7]; rfl) ?_
          refine en_segs [(60, .aload_n 0, []), (61, .iload_n 1, [])] (by decide +kernel) (y := (62, [some (.ref a0), some (.int p1), some (.int p2)], [.int p1, .ref a0], h)) rfl ?_
          obtain ⟨r8, hr8, hF⟩ := ob_some hF
          refine en_vi (r := []) (by decide +kernel : u_at kl_235 62 = some (.invokevirtual 375, [234, 1, 12])) hW ha0 rfl rfl (Nat.le_of_ble_eq_true rfl) (e_234 (D := D) (by omega) hW ha0 hr8) (fun h' q => ?_)
          subst q
          obtain rfl := Option.some.inj hF
          exact en_ret (by decide +kernel : u_at kl_235 65 = some (.ireturn, [0])) rfl (hQ)
        · replace hF := i_neg b7 hF
          by_cases b9 : p2 = 3
          · replace hF := i_pos b9 hF
            refine en_tsC (by decide +kernel : u_at kl_235 11 = some (.tableswitch 81 0 5 #[37, 43, 49, 55, 65, 75], [92, 48, 54, 60, 66, 76, 86])) (by rw [b9]; decide) (u := 66) (by rw [b9]; rfl) ?_
            refine en_segs [(66, .aload_n 0, [])] (by decide +kernel) (y := (67, [some (.ref a0), some (.int p1), some (.int p2)], [.ref a0], h)) rfl ?_
            refine en_get (by decide +kernel : u_at kl_235 67 = some (.getfield 39, [12, 20])) hW ha0 (by decide) rfl ?_
            refine en_segs [(70, .bipush 82, []), (72, .iload_n 1, []), (73, .iadd, [])] (by decide +kernel) (y := (74, [some (.ref a0), some (.int p1), some (.int p2)], [.int (82 + p1), .ref (aP d 12 20 a0)], h)) rfl ?_
            obtain ⟨v10, hv10, hF⟩ := ob_some hF
            refine en_iald (by decide +kernel : u_at kl_235 74 = some (.iaload, [])) hW ha0 rfl (by decide) hv10 ?_
            obtain rfl := Option.some.inj hF
            exact en_ret (by decide +kernel : u_at kl_235 75 = some (.ireturn, [0])) rfl (hQ)
          · replace hF := i_neg b9 hF
            by_cases b11 : p2 = 4
            · replace hF := i_pos b11 hF
              refine en_tsC (by decide +kernel : u_at kl_235 11 = some (.tableswitch 81 0 5 #[37, 43, 49, 55, 65, 75], [92, 48, 54, 60, 66, 76, 86])) (by rw [b11]; decide) (u := 76) (by rw [b11]; rfl) ?_
              refine en_segs [(76, .aload_n 0, [])] (by decide +kernel) (y := (77, [some (.ref a0), some (.int p1), some (.int p2)], [.ref a0], h)) rfl ?_
              refine en_get (by decide +kernel : u_at kl_235 77 = some (.getfield 39, [12, 20])) hW ha0 (by decide) rfl ?_
              refine en_segs [(80, .bipush 76, []), (82, .iload_n 1, []), (83, .iadd, [])] (by decide +kernel) (y := (84, [some (.ref a0), some (.int p1), some (.int p2)], [.int (76 + p1), .ref (aP d 12 20 a0)], h)) rfl ?_
              obtain ⟨v12, hv12, hF⟩ := ob_some hF
              refine en_iald (by decide +kernel : u_at kl_235 84 = some (.iaload, [])) hW ha0 rfl (by decide) hv12 ?_
              obtain rfl := Option.some.inj hF
              exact en_ret (by decide +kernel : u_at kl_235 85 = some (.ireturn, [0])) rfl (hQ)
            · replace hF := i_neg b11 hF
              by_cases b13 : p2 = 5
              · replace hF := i_pos b13 hF
                refine en_tsC (by decide +kernel : u_at kl_235 11 = some (.tableswitch 81 0 5 #[37, 43, 49, 55, 65, 75], [92, 48, 54, 60, 66, 76, 86])) (by rw [b13]; decide) (u := 86) (by rw [b13]; rfl) ?_
                refine en_segs [(86, .aload_n 0, []), (87, .iload_n 1, [])] (by decide +kernel) (y := (88, [some (.ref a0), some (.int p1), some (.int p2)], [.int p1, .ref a0], h)) rfl ?_
                obtain ⟨r14, hr14, hF⟩ := ob_some hF
                refine en_vi (r := []) (by decide +kernel : u_at kl_235 88 = some (.invokevirtual 378, [232, 1, 12])) hW ha0 rfl rfl (Nat.le_of_ble_eq_true rfl) (e_232 (D := D) (by omega) hW ha0 hr14) (fun h' q => ?_)
                subst q
                obtain rfl := Option.some.inj hF
                exact en_ret (by decide +kernel : u_at kl_235 91 = some (.ireturn, [0])) rfl (hQ)
              · replace hF := i_neg b13 hF
                have wb3 : (p2 : Int32).toInt ≠ 0 := ti_ne b3
                have wb5 : (p2 : Int32).toInt ≠ 1 := ti_ne b5
                have wb7 : (p2 : Int32).toInt ≠ 2 := ti_ne b7
                have wb9 : (p2 : Int32).toInt ≠ 3 := ti_ne b9
                have wb11 : (p2 : Int32).toInt ≠ 4 := ti_ne b11
                have wb13 : (p2 : Int32).toInt ≠ 5 := ti_ne b13
                refine en_tsO (by decide +kernel : u_at kl_235 11 = some (.tableswitch 81 0 5 #[37, 43, 49, 55, 65, 75], [92, 48, 54, 60, 66, 76, 86])) (by omega) ?_
                refine en_segs [(92, .iconst (-1), [])] (by decide +kernel) (y := (93, [some (.ref a0), some (.int p1), some (.int p2)], [.int (-1)], h)) rfl ?_
                obtain rfl := Option.some.inj hF
                exact en_ret (by decide +kernel : u_at kl_235 93 = some (.ireturn, [0])) rfl (hQ)
def F_236 (c12 : Cl) (a0 : Nat) (p1 : Int32) (p2 : Int32) : Option Int32 :=
  F_220 c12 a0 p1 >>= fun r1 =>
  ((if r1 = 0 then
  some (-1)
  else
  F_170 ((p2 : Int32).toInt64) 0 2 >>= fun r5 =>
  if r5 = 0 then
  some (-1)
  else
  ald (cA c12 20 a0) 221 ((10 + (3 * p1)) + p2) >>= fun v7 =>
  some v7) : Option (Int32)) >>= fun (t2 : Int32) =>
  some t2
set_option maxRecDepth 100000 in
set_option maxHeartbeats 4000000 in
/-- HeadCountsModel.door -/
theorem e_236 {D : Nat} {c0 c1 c2 c3 c4 c5 c6 c7 c8 c9 c10 c11 c12 c13 : Cl} {d : Ad} {h : UH} {a0 : Nat} {p1 : Int32} {p2 : Int32} {r : Int32} (hD : 2 ≤ D) (hW : HW (mkw c0 c1 c2 c3 c4 c5 c6 c7 c8 c9 c10 c11 c12 c13) d h) (ha0 : aK d a0 = (0, 12, 0)) (hF : F_236 c12 a0 p1 p2 = some r) : ∃ q, EX D 236 [.ref a0, .int p1, .int p2] h q ∧ q.1 = some (.int r) ∧ h = q.2 := by
  obtain ⟨D, rfl⟩ : ∃ E, D = E + 1 := ⟨D - 1, by omega⟩
  unfold F_236 at hF
  refine ex_in (kl := kl_236) (nL := 3) rfl (by decide +kernel) (Nat.le_of_ble_eq_true rfl) ?_
  obtain ⟨QQ, hQQ⟩ : ∃ QQ : UR → Prop, QQ = (fun q : UR => q.1 = some (.int r) ∧ h = q.2) := ⟨_, rfl⟩
  rw [← hQQ]
  have hQ : QQ (some (.int r), h) := by rw [hQQ]; exact ⟨rfl, rfl⟩
  clear hQQ
  show Ends (EX D) (u_at kl_236) (0, [some (.ref a0), some (.int p1), some (.int p2)], [], h) QQ
  refine en_segs [(0, .aload_n 0, []), (1, .iload_n 1, [])] (by decide +kernel) (y := (2, [some (.ref a0), some (.int p1), some (.int p2)], [.int p1, .ref a0], h)) rfl ?_
  obtain ⟨r1, hr1, hF⟩ := ob_some hF
  refine en_vi (r := []) (by decide +kernel : u_at kl_236 2 = some (.invokevirtual 381, [220, 1, 12])) hW ha0 rfl rfl (Nat.le_of_ble_eq_true rfl) (e_220 (D := D) (by omega) hW ha0 hr1) (fun h' q => ?_)
  subst q
  obtain ⟨t2, hX, hK⟩ := ob_some hF
  have j3 : Ends (EX D) (u_at kl_236) (37, [some (.ref a0), some (.int p1), some (.int p2)], [.int t2], h) QQ := by
    have hF := hK
    obtain rfl := Option.some.inj hF
    exact en_ret (by decide +kernel : u_at kl_236 37 = some (.ireturn, [0])) rfl (hQ)
  have hF := hX
  refine en_if_eq (by decide +kernel : u_at kl_236 5 = some (.ifCond .eq 31, [36])) (fun b4 => ?_) (fun b4 => ?_)
  · replace hF := i_pos b4 hF
    refine en_segs [(36, .iconst (-1), [])] (by decide +kernel) (y := (37, [some (.ref a0), some (.int p1), some (.int p2)], [.int (-1)], h)) rfl ?_
    obtain rfl := Option.some.inj hF
    exact j3
  · replace hF := i_neg b4 hF
    refine en_segs [(8, .iload_n 2, []), (9, .i2l, []), (10, .lconst 0, []), (11, .ldc2_w 384, [2])] (by decide +kernel) (y := (14, [some (.ref a0), some (.int p1), some (.int p2)], [.long 2, .long 0, .long ((p2 : Int32).toInt64)], h)) rfl ?_
    obtain ⟨r5, hr5, hF⟩ := ob_some hF
    refine en_si (r := []) (by decide +kernel : u_at kl_236 14 = some (.invokestatic 161, [170, 3])) rfl rfl (Nat.le_of_ble_eq_true rfl) (e_170 (D := D) (by omega) hW hr5) (fun h' q => ?_)
    subst q
    refine en_if_eq (by decide +kernel : u_at kl_236 17 = some (.ifCond .eq 19, [36])) (fun b6 => ?_) (fun b6 => ?_)
    · replace hF := i_pos b6 hF
      refine en_segs [(36, .iconst (-1), [])] (by decide +kernel) (y := (37, [some (.ref a0), some (.int p1), some (.int p2)], [.int (-1)], h)) rfl ?_
      obtain rfl := Option.some.inj hF
      exact j3
    · replace hF := i_neg b6 hF
      refine en_segs [(20, .aload_n 0, [])] (by decide +kernel) (y := (21, [some (.ref a0), some (.int p1), some (.int p2)], [.ref a0], h)) rfl ?_
      refine en_get (by decide +kernel : u_at kl_236 21 = some (.getfield 39, [12, 20])) hW ha0 (by decide) rfl ?_
      refine en_segs [(24, .bipush 10, []), (26, .iconst 3, []), (27, .iload_n 1, []), (28, .imul, []), (29, .iadd, []), (30, .iload_n 2, []), (31, .iadd, [])] (by decide +kernel) (y := (32, [some (.ref a0), some (.int p1), some (.int p2)], [.int ((10 + (3 * p1)) + p2), .ref (aP d 12 20 a0)], h)) rfl ?_
      obtain ⟨v7, hv7, hF⟩ := ob_some hF
      refine en_iald (by decide +kernel : u_at kl_236 32 = some (.iaload, [])) hW ha0 rfl (by decide) hv7 ?_
      refine en_segs [(33, .goto 4, [37])] (by decide +kernel) (y := (37, [some (.ref a0), some (.int p1), some (.int p2)], [.int v7], h)) rfl ?_
      obtain rfl := Option.some.inj hF
      exact j3
def F_237 (c12 : Cl) (a0 : Nat) (p1 : Int32) (p2 : Int32) : Option Int32 :=
  F_222 c12 a0 p1 >>= fun r1 =>
  ((if r1 = 0 then
  some (-1)
  else
  F_170 ((p2 : Int32).toInt64) 0 1 >>= fun r5 =>
  if r5 = 0 then
  some (-1)
  else
  if p2 = 0 then
  ald (cA c12 20 a0) 221 (88 + p1) >>= fun v8 =>
  some v8
  else
  F_231 c12 a0 p1 >>= fun r9 =>
  some r9) : Option (Int32)) >>= fun (t2 : Int32) =>
  some t2
set_option maxRecDepth 100000 in
set_option maxHeartbeats 4000000 in
/-- HeadCountsModel.sense -/
theorem e_237 {D : Nat} {c0 c1 c2 c3 c4 c5 c6 c7 c8 c9 c10 c11 c12 c13 : Cl} {d : Ad} {h : UH} {a0 : Nat} {p1 : Int32} {p2 : Int32} {r : Int32} (hD : 8 ≤ D) (hW : HW (mkw c0 c1 c2 c3 c4 c5 c6 c7 c8 c9 c10 c11 c12 c13) d h) (ha0 : aK d a0 = (0, 12, 0)) (hF : F_237 c12 a0 p1 p2 = some r) : ∃ q, EX D 237 [.ref a0, .int p1, .int p2] h q ∧ q.1 = some (.int r) ∧ h = q.2 := by
  obtain ⟨D, rfl⟩ : ∃ E, D = E + 1 := ⟨D - 1, by omega⟩
  unfold F_237 at hF
  refine ex_in (kl := kl_237) (nL := 3) rfl (by decide +kernel) (Nat.le_of_ble_eq_true rfl) ?_
  obtain ⟨QQ, hQQ⟩ : ∃ QQ : UR → Prop, QQ = (fun q : UR => q.1 = some (.int r) ∧ h = q.2) := ⟨_, rfl⟩
  rw [← hQQ]
  have hQ : QQ (some (.int r), h) := by rw [hQQ]; exact ⟨rfl, rfl⟩
  clear hQQ
  show Ends (EX D) (u_at kl_237) (0, [some (.ref a0), some (.int p1), some (.int p2)], [], h) QQ
  refine en_segs [(0, .aload_n 0, []), (1, .iload_n 1, [])] (by decide +kernel) (y := (2, [some (.ref a0), some (.int p1), some (.int p2)], [.int p1, .ref a0], h)) rfl ?_
  obtain ⟨r1, hr1, hF⟩ := ob_some hF
  refine en_vi (r := []) (by decide +kernel : u_at kl_237 2 = some (.invokevirtual 386, [222, 1, 12])) hW ha0 rfl rfl (Nat.le_of_ble_eq_true rfl) (e_222 (D := D) (by omega) hW ha0 hr1) (fun h' q => ?_)
  subst q
  obtain ⟨t2, hX, hK⟩ := ob_some hF
  have j3 : Ends (EX D) (u_at kl_237) (43, [some (.ref a0), some (.int p1), some (.int p2)], [.int t2], h) QQ := by
    have hF := hK
    obtain rfl := Option.some.inj hF
    exact en_ret (by decide +kernel : u_at kl_237 43 = some (.ireturn, [0])) rfl (hQ)
  have hF := hX
  refine en_if_eq (by decide +kernel : u_at kl_237 5 = some (.ifCond .eq 13, [18])) (fun b4 => ?_) (fun b4 => ?_)
  · replace hF := i_pos b4 hF
    refine en_segs [(18, .iconst (-1), []), (19, .goto 24, [43])] (by decide +kernel) (y := (43, [some (.ref a0), some (.int p1), some (.int p2)], [.int (-1)], h)) rfl ?_
    obtain rfl := Option.some.inj hF
    exact j3
  · replace hF := i_neg b4 hF
    refine en_segs [(8, .iload_n 2, []), (9, .i2l, []), (10, .lconst 0, []), (11, .lconst 1, [])] (by decide +kernel) (y := (12, [some (.ref a0), some (.int p1), some (.int p2)], [.long 1, .long 0, .long ((p2 : Int32).toInt64)], h)) rfl ?_
    obtain ⟨r5, hr5, hF⟩ := ob_some hF
    refine en_si (r := []) (by decide +kernel : u_at kl_237 12 = some (.invokestatic 161, [170, 3])) rfl rfl (Nat.le_of_ble_eq_true rfl) (e_170 (D := D) (by omega) hW hr5) (fun h' q => ?_)
    subst q
    refine en_if_ne (by decide +kernel : u_at kl_237 15 = some (.ifCond .ne 7, [22])) (fun b6 => ?_) (fun b6 => ?_)
    · replace hF := i_pos b6 hF
      refine en_segs [(18, .iconst (-1), []), (19, .goto 24, [43])] (by decide +kernel) (y := (43, [some (.ref a0), some (.int p1), some (.int p2)], [.int (-1)], h)) rfl ?_
      obtain rfl := Option.some.inj hF
      exact j3
    · replace hF := i_neg b6 hF
      refine en_segs [(22, .iload_n 2, [])] (by decide +kernel) (y := (23, [some (.ref a0), some (.int p1), some (.int p2)], [.int p2], h)) rfl ?_
      refine en_if_ne (by decide +kernel : u_at kl_237 23 = some (.ifCond .ne 15, [38])) (fun b7 => ?_) (fun b7 => ?_)
      · replace hF := i_pos b7 hF
        refine en_segs [(26, .aload_n 0, [])] (by decide +kernel) (y := (27, [some (.ref a0), some (.int p1), some (.int p2)], [.ref a0], h)) rfl ?_
        refine en_get (by decide +kernel : u_at kl_237 27 = some (.getfield 39, [12, 20])) hW ha0 (by decide) rfl ?_
        refine en_segs [(30, .bipush 88, []), (32, .iload_n 1, []), (33, .iadd, [])] (by decide +kernel) (y := (34, [some (.ref a0), some (.int p1), some (.int p2)], [.int (88 + p1), .ref (aP d 12 20 a0)], h)) rfl ?_
        obtain ⟨v8, hv8, hF⟩ := ob_some hF
        refine en_iald (by decide +kernel : u_at kl_237 34 = some (.iaload, [])) hW ha0 rfl (by decide) hv8 ?_
        refine en_segs [(35, .goto 8, [43])] (by decide +kernel) (y := (43, [some (.ref a0), some (.int p1), some (.int p2)], [.int v8], h)) rfl ?_
        obtain rfl := Option.some.inj hF
        exact j3
      · replace hF := i_neg b7 hF
        refine en_segs [(38, .aload_n 0, []), (39, .iload_n 1, [])] (by decide +kernel) (y := (40, [some (.ref a0), some (.int p1), some (.int p2)], [.int p1, .ref a0], h)) rfl ?_
        obtain ⟨r9, hr9, hF⟩ := ob_some hF
        refine en_vi (r := []) (by decide +kernel : u_at kl_237 40 = some (.invokevirtual 389, [231, 1, 12])) hW ha0 rfl rfl (Nat.le_of_ble_eq_true rfl) (e_231 (D := D) (by omega) hW ha0 hr9) (fun h' q => ?_)
        subst q
        obtain rfl := Option.some.inj hF
        exact j3
def F_238 (c12 : Cl) (a0 : Nat) (p1 : Int32) (p2 : Int32) : Option Int32 :=
  F_219 c12 a0 p1 >>= fun r1 =>
  ((if r1 = 0 then
  some (-1)
  else
  F_170 ((p2 : Int32).toInt64) 0 9 >>= fun r5 =>
  if r5 = 0 then
  some (-1)
  else
  ald (cA c12 20 a0) 221 4 >>= fun v7 =>
  if v7 < p2 then
  some (-1)
  else
  F_228 c12 a0 p1 p2 >>= fun r9 =>
  some r9) : Option (Int32)) >>= fun (t2 : Int32) =>
  some t2
set_option maxRecDepth 100000 in
set_option maxHeartbeats 4000000 in
/-- HeadCountsModel.was -/
theorem e_238 {D : Nat} {c0 c1 c2 c3 c4 c5 c6 c7 c8 c9 c10 c11 c12 c13 : Cl} {d : Ad} {h : UH} {a0 : Nat} {p1 : Int32} {p2 : Int32} {r : Int32} (hD : 6 ≤ D) (hW : HW (mkw c0 c1 c2 c3 c4 c5 c6 c7 c8 c9 c10 c11 c12 c13) d h) (ha0 : aK d a0 = (0, 12, 0)) (hF : F_238 c12 a0 p1 p2 = some r) : ∃ q, EX D 238 [.ref a0, .int p1, .int p2] h q ∧ q.1 = some (.int r) ∧ h = q.2 := by
  obtain ⟨D, rfl⟩ : ∃ E, D = E + 1 := ⟨D - 1, by omega⟩
  unfold F_238 at hF
  refine ex_in (kl := kl_238) (nL := 3) rfl (by decide +kernel) (Nat.le_of_ble_eq_true rfl) ?_
  obtain ⟨QQ, hQQ⟩ : ∃ QQ : UR → Prop, QQ = (fun q : UR => q.1 = some (.int r) ∧ h = q.2) := ⟨_, rfl⟩
  rw [← hQQ]
  have hQ : QQ (some (.int r), h) := by rw [hQQ]; exact ⟨rfl, rfl⟩
  clear hQQ
  show Ends (EX D) (u_at kl_238) (0, [some (.ref a0), some (.int p1), some (.int p2)], [], h) QQ
  refine en_segs [(0, .aload_n 0, []), (1, .iload_n 1, [])] (by decide +kernel) (y := (2, [some (.ref a0), some (.int p1), some (.int p2)], [.int p1, .ref a0], h)) rfl ?_
  obtain ⟨r1, hr1, hF⟩ := ob_some hF
  refine en_vi (r := []) (by decide +kernel : u_at kl_238 2 = some (.invokevirtual 372, [219, 1, 12])) hW ha0 rfl rfl (Nat.le_of_ble_eq_true rfl) (e_219 (D := D) (by omega) hW ha0 hr1) (fun h' q => ?_)
  subst q
  obtain ⟨t2, hX, hK⟩ := ob_some hF
  have j3 : Ends (EX D) (u_at kl_238) (40, [some (.ref a0), some (.int p1), some (.int p2)], [.int t2], h) QQ := by
    have hF := hK
    obtain rfl := Option.some.inj hF
    exact en_ret (by decide +kernel : u_at kl_238 40 = some (.ireturn, [0])) rfl (hQ)
  have hF := hX
  refine en_if_eq (by decide +kernel : u_at kl_238 5 = some (.ifCond .eq 34, [39])) (fun b4 => ?_) (fun b4 => ?_)
  · replace hF := i_pos b4 hF
    refine en_segs [(39, .iconst (-1), [])] (by decide +kernel) (y := (40, [some (.ref a0), some (.int p1), some (.int p2)], [.int (-1)], h)) rfl ?_
    obtain rfl := Option.some.inj hF
    exact j3
  · replace hF := i_neg b4 hF
    refine en_segs [(8, .iload_n 2, []), (9, .i2l, []), (10, .lconst 0, []), (11, .ldc2_w 392, [9])] (by decide +kernel) (y := (14, [some (.ref a0), some (.int p1), some (.int p2)], [.long 9, .long 0, .long ((p2 : Int32).toInt64)], h)) rfl ?_
    obtain ⟨r5, hr5, hF⟩ := ob_some hF
    refine en_si (r := []) (by decide +kernel : u_at kl_238 14 = some (.invokestatic 161, [170, 3])) rfl rfl (Nat.le_of_ble_eq_true rfl) (e_170 (D := D) (by omega) hW hr5) (fun h' q => ?_)
    subst q
    refine en_if_eq (by decide +kernel : u_at kl_238 17 = some (.ifCond .eq 22, [39])) (fun b6 => ?_) (fun b6 => ?_)
    · replace hF := i_pos b6 hF
      refine en_segs [(39, .iconst (-1), [])] (by decide +kernel) (y := (40, [some (.ref a0), some (.int p1), some (.int p2)], [.int (-1)], h)) rfl ?_
      obtain rfl := Option.some.inj hF
      exact j3
    · replace hF := i_neg b6 hF
      refine en_segs [(20, .iload_n 2, []), (21, .aload_n 0, [])] (by decide +kernel) (y := (22, [some (.ref a0), some (.int p1), some (.int p2)], [.ref a0, .int p2], h)) rfl ?_
      refine en_get (by decide +kernel : u_at kl_238 22 = some (.getfield 39, [12, 20])) hW ha0 (by decide) rfl ?_
      refine en_segs [(25, .iconst 4, [])] (by decide +kernel) (y := (26, [some (.ref a0), some (.int p1), some (.int p2)], [.int 4, .ref (aP d 12 20 a0), .int p2], h)) rfl ?_
      obtain ⟨v7, hv7, hF⟩ := ob_some hF
      refine en_iald (by decide +kernel : u_at kl_238 26 = some (.iaload, [])) hW ha0 rfl (by decide) hv7 ?_
      refine en_ic_gt (by decide +kernel : u_at kl_238 27 = some (.if_icmp .gt 12, [39])) (fun b8 => ?_) (fun b8 => ?_)
      · replace hF := i_pos b8 hF
        refine en_segs [(39, .iconst (-1), [])] (by decide +kernel) (y := (40, [some (.ref a0), some (.int p1), some (.int p2)], [.int (-1)], h)) rfl ?_
        obtain rfl := Option.some.inj hF
        exact j3
      · replace hF := i_neg b8 hF
        refine en_segs [(30, .aload_n 0, []), (31, .iload_n 1, []), (32, .iload_n 2, [])] (by decide +kernel) (y := (33, [some (.ref a0), some (.int p1), some (.int p2)], [.int p2, .int p1, .ref a0], h)) rfl ?_
        obtain ⟨r9, hr9, hF⟩ := ob_some hF
        refine en_vi (r := []) (by decide +kernel : u_at kl_238 33 = some (.invokevirtual 358, [228, 2, 12])) hW ha0 rfl rfl (Nat.le_of_ble_eq_true rfl) (e_228 (D := D) (by omega) hW ha0 hr9) (fun h' q => ?_)
        subst q
        refine en_segs [(36, .goto 4, [40])] (by decide +kernel) (y := (40, [some (.ref a0), some (.int p1), some (.int p2)], [.int r9], h)) rfl ?_
        obtain rfl := Option.some.inj hF
        exact j3
def G_239 (a0 : Nat) (lab : Nat) (xs : List Int32) (ys : List Int64) (zs : List Nat) (c12 : Cl) : Option Cl := match lab, xs, ys, zs with
  | 0, [x1], [], [] =>
    if 3680 ≤ x1 then
    some (sI c12 23 a0 ((cI c12 23 a0) - 1)) >>= fun c12_3 =>
    G_239 a0 1 [0] [] [] c12_3
    else
    ald (cA c12 22 a0) 3680 x1 >>= fun v4 =>
    ast c12 22 a0 3680 (x1 - 184) v4 >>= fun c12_5 =>
    G_239 a0 0 [x1 + 1] [] [] c12_5
  | 1, [x1], [], [] =>
    if 184 ≤ x1 then
    some (sI c12 23 a0 ((cI c12 23 a0) + 1)) >>= fun c12_7 =>
    some c12_7
    else
    ald (cA c12 20 a0) 221 x1 >>= fun v8 =>
    ast c12 22 a0 3680 ((184 * (cI c12 23 a0)) + x1) v8 >>= fun c12_9 =>
    G_239 a0 1 [x1 + 1] [] [] c12_9
  | _, _, _, _ => none
partial_fixpoint
set_option maxRecDepth 100000 in
set_option maxHeartbeats 4000000 in
theorem g_239 {D : Nat} (hD : 1 ≤ D + 1) {c0 c1 c2 c3 c4 c5 c6 c7 c8 c9 c10 c11 c13 : Cl} {d : Ad} {a0 : Nat} (ha0 : aK d a0 = (0, 12, 0)) : ∀ (lab : Nat) (xs : List Int32) (ys : List Int64) (zs : List Nat) (c12 : Cl) (r : Cl), G_239 a0 lab xs ys zs c12 = some r →
    (∀ (x1 : Int32), lab = 0 → xs = [x1] → ys = [] → zs = [] → ∀ h : UH, HW (mkw c0 c1 c2 c3 c4 c5 c6 c7 c8 c9 c10 c11 c12 c13) d h → ∀ QQ : UR → Prop, (∀ h' : UH, HW (mkw c0 c1 c2 c3 c4 c5 c6 c7 c8 c9 c10 c11 r c13) d h' → QQ (none, h')) → Ends (EX D) (u_at kl_239) (13, [some (.ref a0), some (.int x1)], [], h) QQ) ∧
    (∀ (x1 : Int32), lab = 1 → xs = [x1] → ys = [] → zs = [] → ∀ h : UH, HW (mkw c0 c1 c2 c3 c4 c5 c6 c7 c8 c9 c10 c11 c12 c13) d h → ∀ QQ : UR → Prop, (∀ h' : UH, HW (mkw c0 c1 c2 c3 c4 c5 c6 c7 c8 c9 c10 c11 r c13) d h' → QQ (none, h')) → Ends (EX D) (u_at kl_239) (54, [some (.ref a0), some (.int x1)], [], h) QQ) := by
  refine G_239.partial_correctness _ (motive := fun lab xs ys zs c12 r =>
    (∀ (x1 : Int32), lab = 0 → xs = [x1] → ys = [] → zs = [] → ∀ h : UH, HW (mkw c0 c1 c2 c3 c4 c5 c6 c7 c8 c9 c10 c11 c12 c13) d h → ∀ QQ : UR → Prop, (∀ h' : UH, HW (mkw c0 c1 c2 c3 c4 c5 c6 c7 c8 c9 c10 c11 r c13) d h' → QQ (none, h')) → Ends (EX D) (u_at kl_239) (13, [some (.ref a0), some (.int x1)], [], h) QQ) ∧
    (∀ (x1 : Int32), lab = 1 → xs = [x1] → ys = [] → zs = [] → ∀ h : UH, HW (mkw c0 c1 c2 c3 c4 c5 c6 c7 c8 c9 c10 c11 c12 c13) d h → ∀ QQ : UR → Prop, (∀ h' : UH, HW (mkw c0 c1 c2 c3 c4 c5 c6 c7 c8 c9 c10 c11 r c13) d h' → QQ (none, h')) → Ends (EX D) (u_at kl_239) (54, [some (.ref a0), some (.int x1)], [], h) QQ)) ?_
  intro G ih lab xs ys zs c12 r hF
  refine ⟨?_, ?_⟩
  · intro x1 e1 e2 e3 e4 h hW QQ hQ
    subst e1 e2 e3 e4
    refine en_segs [(13, .iload_n 1, []), (14, .sipush 3680, [])] (by decide +kernel) (y := (17, [some (.ref a0), some (.int x1)], [.int 3680, .int x1], h)) rfl ?_
    refine en_ic_ge (by decide +kernel : u_at kl_239 17 = some (.if_icmp .ge 25, [42])) (fun b2 => ?_) (fun b2 => ?_)
    · replace hF := i_pos b2 hF
      refine en_segs [(42, .aload_n 0, []), (43, .dup, [])] (by decide +kernel) (y := (44, [some (.ref a0), some (.int x1)], [.ref a0, .ref a0], h)) rfl ?_
      refine en_get (by decide +kernel : u_at kl_239 44 = some (.getfield 322, [12, 23])) hW ha0 (by decide) rfl ?_
      refine en_segs [(47, .iconst 1, []), (48, .isub, [])] (by decide +kernel) (y := (49, [some (.ref a0), some (.int x1)], [.int ((cI c12 23 a0) - 1), .ref a0], h)) rfl ?_
      obtain ⟨c12_3, hc12_3, hF⟩ := ob_some hF
      refine en_putI (by decide +kernel : u_at kl_239 49 = some (.putfield 322, [12, 23, 0])) hW ha0 rfl (by decide) rfl (fun h hW => ?_)
      have hW : HW (mkw c0 c1 c2 c3 c4 c5 c6 c7 c8 c9 c10 c11 c12_3 c13) d h := by rw [← Option.some.inj hc12_3]; exact hW
      refine en_segs [(52, .iconst 0, []), (53, .istore_n 1, [])] (by decide +kernel) (y := (54, [some (.ref a0), some (.int 0)], [], h)) rfl ?_
      exact (ih _ _ _ _ _ _ hF).2 _ rfl rfl rfl rfl  _ hW _ hQ
    · replace hF := i_neg b2 hF
      refine en_segs [(20, .aload_n 0, [])] (by decide +kernel) (y := (21, [some (.ref a0), some (.int x1)], [.ref a0], h)) rfl ?_
      refine en_get (by decide +kernel : u_at kl_239 21 = some (.getfield 42, [12, 22])) hW ha0 (by decide) rfl ?_
      refine en_segs [(24, .iload_n 1, []), (25, .sipush 184, []), (28, .isub, []), (29, .aload_n 0, [])] (by decide +kernel) (y := (30, [some (.ref a0), some (.int x1)], [.ref a0, .int (x1 - 184), .ref (aP d 12 22 a0)], h)) rfl ?_
      refine en_get (by decide +kernel : u_at kl_239 30 = some (.getfield 42, [12, 22])) hW ha0 (by decide) rfl ?_
      refine en_segs [(33, .iload_n 1, [])] (by decide +kernel) (y := (34, [some (.ref a0), some (.int x1)], [.int x1, .ref (aP d 12 22 a0), .int (x1 - 184), .ref (aP d 12 22 a0)], h)) rfl ?_
      obtain ⟨v4, hv4, hF⟩ := ob_some hF
      refine en_iald (by decide +kernel : u_at kl_239 34 = some (.iaload, [])) hW ha0 rfl (by decide) hv4 ?_
      obtain ⟨c12_5, hc12_5, hF⟩ := ob_some hF
      refine en_iast (by decide +kernel : u_at kl_239 35 = some (.iastore, [])) hW ha0 rfl (by decide) hc12_5 (fun h hW => ?_)
      have hW : HW (mkw c0 c1 c2 c3 c4 c5 c6 c7 c8 c9 c10 c11 c12_5 c13) d h := hW
      refine en_segs [(36, .iinc 1 1, []), (39, .goto (-26), [13])] (by decide +kernel) (y := (13, [some (.ref a0), some (.int (x1 + 1))], [], h)) rfl ?_
      exact (ih _ _ _ _ _ _ hF).1 _ rfl rfl rfl rfl  _ hW _ hQ
  · intro x1 e1 e2 e3 e4 h hW QQ hQ
    subst e1 e2 e3 e4
    refine en_segs [(54, .iload_n 1, []), (55, .sipush 184, [])] (by decide +kernel) (y := (58, [some (.ref a0), some (.int x1)], [.int 184, .int x1], h)) rfl ?_
    refine en_ic_ge (by decide +kernel : u_at kl_239 58 = some (.if_icmp .ge 30, [88])) (fun b6 => ?_) (fun b6 => ?_)
    · replace hF := i_pos b6 hF
      refine en_segs [(88, .aload_n 0, []), (89, .dup, [])] (by decide +kernel) (y := (90, [some (.ref a0), some (.int x1)], [.ref a0, .ref a0], h)) rfl ?_
      refine en_get (by decide +kernel : u_at kl_239 90 = some (.getfield 322, [12, 23])) hW ha0 (by decide) rfl ?_
      refine en_segs [(93, .iconst 1, []), (94, .iadd, [])] (by decide +kernel) (y := (95, [some (.ref a0), some (.int x1)], [.int ((cI c12 23 a0) + 1), .ref a0], h)) rfl ?_
      obtain ⟨c12_7, hc12_7, hF⟩ := ob_some hF
      refine en_putI (by decide +kernel : u_at kl_239 95 = some (.putfield 322, [12, 23, 0])) hW ha0 rfl (by decide) rfl (fun h hW => ?_)
      have hW : HW (mkw c0 c1 c2 c3 c4 c5 c6 c7 c8 c9 c10 c11 c12_7 c13) d h := by rw [← Option.some.inj hc12_7]; exact hW
      obtain rfl := Option.some.inj hF
      exact en_ret (by decide +kernel : u_at kl_239 98 = some (.return_, [])) rfl (hQ _ hW)
    · replace hF := i_neg b6 hF
      refine en_segs [(61, .aload_n 0, [])] (by decide +kernel) (y := (62, [some (.ref a0), some (.int x1)], [.ref a0], h)) rfl ?_
      refine en_get (by decide +kernel : u_at kl_239 62 = some (.getfield 42, [12, 22])) hW ha0 (by decide) rfl ?_
      refine en_segs [(65, .sipush 184, []), (68, .aload_n 0, [])] (by decide +kernel) (y := (69, [some (.ref a0), some (.int x1)], [.ref a0, .int 184, .ref (aP d 12 22 a0)], h)) rfl ?_
      refine en_get (by decide +kernel : u_at kl_239 69 = some (.getfield 322, [12, 23])) hW ha0 (by decide) rfl ?_
      refine en_segs [(72, .imul, []), (73, .iload_n 1, []), (74, .iadd, []), (75, .aload_n 0, [])] (by decide +kernel) (y := (76, [some (.ref a0), some (.int x1)], [.ref a0, .int ((184 * (cI c12 23 a0)) + x1), .ref (aP d 12 22 a0)], h)) rfl ?_
      refine en_get (by decide +kernel : u_at kl_239 76 = some (.getfield 39, [12, 20])) hW ha0 (by decide) rfl ?_
      refine en_segs [(79, .iload_n 1, [])] (by decide +kernel) (y := (80, [some (.ref a0), some (.int x1)], [.int x1, .ref (aP d 12 20 a0), .int ((184 * (cI c12 23 a0)) + x1), .ref (aP d 12 22 a0)], h)) rfl ?_
      obtain ⟨v8, hv8, hF⟩ := ob_some hF
      refine en_iald (by decide +kernel : u_at kl_239 80 = some (.iaload, [])) hW ha0 rfl (by decide) hv8 ?_
      obtain ⟨c12_9, hc12_9, hF⟩ := ob_some hF
      refine en_iast (by decide +kernel : u_at kl_239 81 = some (.iastore, [])) hW ha0 rfl (by decide) hc12_9 (fun h hW => ?_)
      have hW : HW (mkw c0 c1 c2 c3 c4 c5 c6 c7 c8 c9 c10 c11 c12_9 c13) d h := hW
      refine en_segs [(82, .iinc 1 1, []), (85, .goto (-31), [54])] (by decide +kernel) (y := (54, [some (.ref a0), some (.int (x1 + 1))], [], h)) rfl ?_
      exact (ih _ _ _ _ _ _ hF).2 _ rfl rfl rfl rfl  _ hW _ hQ
def F_239 (c12 : Cl) (a0 : Nat) : Option Cl :=
  if (cI c12 23 a0) = 20 then
  G_239 a0 0 [184] [] [] c12
  else
  G_239 a0 1 [0] [] [] c12
set_option maxRecDepth 100000 in
set_option maxHeartbeats 4000000 in
/-- HeadCountsModel.keepsMinute -/
theorem e_239 {D : Nat} {c0 c1 c2 c3 c4 c5 c6 c7 c8 c9 c10 c11 c12 c13 : Cl} {d : Ad} {h : UH} {a0 : Nat} {r : Cl} (hD : 1 ≤ D) (hW : HW (mkw c0 c1 c2 c3 c4 c5 c6 c7 c8 c9 c10 c11 c12 c13) d h) (ha0 : aK d a0 = (0, 12, 0)) (hF : F_239 c12 a0 = some r) : ∃ q, EX D 239 [.ref a0] h q ∧ q.1 = none ∧ HW (mkw c0 c1 c2 c3 c4 c5 c6 c7 c8 c9 c10 c11 r c13) d q.2 := by
  obtain ⟨D, rfl⟩ : ∃ E, D = E + 1 := ⟨D - 1, by omega⟩
  unfold F_239 at hF
  refine ex_in (kl := kl_239) (nL := 2) rfl (by decide +kernel) (Nat.le_of_ble_eq_true rfl) ?_
  obtain ⟨QQ, hQQ⟩ : ∃ QQ : UR → Prop, QQ = (fun q : UR => q.1 = none ∧ HW (mkw c0 c1 c2 c3 c4 c5 c6 c7 c8 c9 c10 c11 r c13) d q.2) := ⟨_, rfl⟩
  rw [← hQQ]
  have hQ : ∀ h' : UH, HW (mkw c0 c1 c2 c3 c4 c5 c6 c7 c8 c9 c10 c11 r c13) d h' → QQ (none, h') := fun h' p => by rw [hQQ]; exact ⟨rfl, p⟩
  clear hQQ
  show Ends (EX D) (u_at kl_239) (0, [some (.ref a0), none], [], h) QQ
  refine en_segs [(0, .aload_n 0, [])] (by decide +kernel) (y := (1, [some (.ref a0), none], [.ref a0], h)) rfl ?_
  refine en_get (by decide +kernel : u_at kl_239 1 = some (.getfield 322, [12, 23])) hW ha0 (by decide) rfl ?_
  refine en_segs [(4, .bipush 20, [])] (by decide +kernel) (y := (6, [some (.ref a0), none], [.int 20, .int (cI c12 23 a0)], h)) rfl ?_
  refine en_ic_ne (by decide +kernel : u_at kl_239 6 = some (.if_icmp .ne 46, [52])) (fun b1 => ?_) (fun b1 => ?_)
  · replace hF := i_pos b1 hF
    refine en_segs [(9, .sipush 184, []), (12, .istore_n 1, [])] (by decide +kernel) (y := (13, [some (.ref a0), some (.int 184)], [], h)) rfl ?_
    exact (g_239 (D := D) hD ha0 _ _ _ _ _ _ hF).1 _ rfl rfl rfl rfl  _ hW _ hQ
  · replace hF := i_neg b1 hF
    refine en_segs [(52, .iconst 0, []), (53, .istore_n 1, [])] (by decide +kernel) (y := (54, [some (.ref a0), some (.int 0)], [], h)) rfl ?_
    exact (g_239 (D := D) hD ha0 _ _ _ _ _ _ hF).2 _ rfl rfl rfl rfl  _ hW _ hQ
def G_240 (a0 : Nat) (lab : Nat) (xs : List Int32) (ys : List Int64) (zs : List Nat) (c12 : Cl) : Option (Int32 × Cl) := match lab, xs, ys, zs with
  | 0, [x1], [], [] =>
    if 184 ≤ x1 then
    some (cI c12 23 a0, c12)
    else
    ald (cA c12 22 a0) 3680 ((184 * (cI c12 23 a0)) + x1) >>= fun v4 =>
    ast c12 20 a0 221 x1 v4 >>= fun c12_5 =>
    G_240 a0 0 [x1 + 1] [] [] c12_5
  | _, _, _, _ => none
partial_fixpoint
set_option maxRecDepth 100000 in
set_option maxHeartbeats 4000000 in
theorem g_240 {D : Nat} (hD : 1 ≤ D + 1) {c0 c1 c2 c3 c4 c5 c6 c7 c8 c9 c10 c11 c13 : Cl} {d : Ad} {a0 : Nat} (ha0 : aK d a0 = (0, 12, 0)) : ∀ (lab : Nat) (xs : List Int32) (ys : List Int64) (zs : List Nat) (c12 : Cl) (r : (Int32 × Cl)), G_240 a0 lab xs ys zs c12 = some r →
    (∀ (x1 : Int32), lab = 0 → xs = [x1] → ys = [] → zs = [] → ∀ h : UH, HW (mkw c0 c1 c2 c3 c4 c5 c6 c7 c8 c9 c10 c11 c12 c13) d h → ∀ QQ : UR → Prop, (∀ h' : UH, HW (mkw c0 c1 c2 c3 c4 c5 c6 c7 c8 c9 c10 c11 r.2 c13) d h' → QQ (some (.int r.1), h')) → Ends (EX D) (u_at kl_240) (21, [some (.ref a0), some (.int x1)], [], h) QQ) := by
  refine G_240.partial_correctness _ (motive := fun lab xs ys zs c12 r =>
    (∀ (x1 : Int32), lab = 0 → xs = [x1] → ys = [] → zs = [] → ∀ h : UH, HW (mkw c0 c1 c2 c3 c4 c5 c6 c7 c8 c9 c10 c11 c12 c13) d h → ∀ QQ : UR → Prop, (∀ h' : UH, HW (mkw c0 c1 c2 c3 c4 c5 c6 c7 c8 c9 c10 c11 r.2 c13) d h' → QQ (some (.int r.1), h')) → Ends (EX D) (u_at kl_240) (21, [some (.ref a0), some (.int x1)], [], h) QQ)) ?_
  intro G ih lab xs ys zs c12 r hF
  · intro x1 e1 e2 e3 e4 h hW QQ hQ
    subst e1 e2 e3 e4
    refine en_segs [(21, .iload_n 1, []), (22, .sipush 184, [])] (by decide +kernel) (y := (25, [some (.ref a0), some (.int x1)], [.int 184, .int x1], h)) rfl ?_
    refine en_ic_ge (by decide +kernel : u_at kl_240 25 = some (.if_icmp .ge 30, [55])) (fun b3 => ?_) (fun b3 => ?_)
    · replace hF := i_pos b3 hF
      refine en_segs [(55, .aload_n 0, [])] (by decide +kernel) (y := (56, [some (.ref a0), some (.int x1)], [.ref a0], h)) rfl ?_
      refine en_get (by decide +kernel : u_at kl_240 56 = some (.getfield 322, [12, 23])) hW ha0 (by decide) rfl ?_
      obtain rfl := Option.some.inj hF
      exact en_ret (by decide +kernel : u_at kl_240 59 = some (.ireturn, [0])) rfl (hQ _ hW)
    · replace hF := i_neg b3 hF
      refine en_segs [(28, .aload_n 0, [])] (by decide +kernel) (y := (29, [some (.ref a0), some (.int x1)], [.ref a0], h)) rfl ?_
      refine en_get (by decide +kernel : u_at kl_240 29 = some (.getfield 39, [12, 20])) hW ha0 (by decide) rfl ?_
      refine en_segs [(32, .iload_n 1, []), (33, .aload_n 0, [])] (by decide +kernel) (y := (34, [some (.ref a0), some (.int x1)], [.ref a0, .int x1, .ref (aP d 12 20 a0)], h)) rfl ?_
      refine en_get (by decide +kernel : u_at kl_240 34 = some (.getfield 42, [12, 22])) hW ha0 (by decide) rfl ?_
      refine en_segs [(37, .sipush 184, []), (40, .aload_n 0, [])] (by decide +kernel) (y := (41, [some (.ref a0), some (.int x1)], [.ref a0, .int 184, .ref (aP d 12 22 a0), .int x1, .ref (aP d 12 20 a0)], h)) rfl ?_
      refine en_get (by decide +kernel : u_at kl_240 41 = some (.getfield 322, [12, 23])) hW ha0 (by decide) rfl ?_
      refine en_segs [(44, .imul, []), (45, .iload_n 1, []), (46, .iadd, [])] (by decide +kernel) (y := (47, [some (.ref a0), some (.int x1)], [.int ((184 * (cI c12 23 a0)) + x1), .ref (aP d 12 22 a0), .int x1, .ref (aP d 12 20 a0)], h)) rfl ?_
      obtain ⟨v4, hv4, hF⟩ := ob_some hF
      refine en_iald (by decide +kernel : u_at kl_240 47 = some (.iaload, [])) hW ha0 rfl (by decide) hv4 ?_
      obtain ⟨c12_5, hc12_5, hF⟩ := ob_some hF
      refine en_iast (by decide +kernel : u_at kl_240 48 = some (.iastore, [])) hW ha0 rfl (by decide) hc12_5 (fun h hW => ?_)
      have hW : HW (mkw c0 c1 c2 c3 c4 c5 c6 c7 c8 c9 c10 c11 c12_5 c13) d h := hW
      refine en_segs [(49, .iinc 1 1, []), (52, .goto (-31), [21])] (by decide +kernel) (y := (21, [some (.ref a0), some (.int (x1 + 1))], [], h)) rfl ?_
      exact (ih _ _ _ _ _ _ hF) _ rfl rfl rfl rfl  _ hW _ hQ
def F_240 (c12 : Cl) (a0 : Nat) : Option (Int32 × Cl) :=
  if (cI c12 23 a0) = 0 then
  some ((-1), c12)
  else
  some (sI c12 23 a0 ((cI c12 23 a0) - 1)) >>= fun c12_2 =>
  G_240 a0 0 [0] [] [] c12_2
set_option maxRecDepth 100000 in
set_option maxHeartbeats 4000000 in
/-- HeadCountsModel.undo -/
theorem e_240 {D : Nat} {c0 c1 c2 c3 c4 c5 c6 c7 c8 c9 c10 c11 c12 c13 : Cl} {d : Ad} {h : UH} {a0 : Nat} {r : (Int32 × Cl)} (hD : 1 ≤ D) (hW : HW (mkw c0 c1 c2 c3 c4 c5 c6 c7 c8 c9 c10 c11 c12 c13) d h) (ha0 : aK d a0 = (0, 12, 0)) (hF : F_240 c12 a0 = some r) : ∃ q, EX D 240 [.ref a0] h q ∧ q.1 = some (.int r.1) ∧ HW (mkw c0 c1 c2 c3 c4 c5 c6 c7 c8 c9 c10 c11 r.2 c13) d q.2 := by
  obtain ⟨D, rfl⟩ : ∃ E, D = E + 1 := ⟨D - 1, by omega⟩
  unfold F_240 at hF
  refine ex_in (kl := kl_240) (nL := 2) rfl (by decide +kernel) (Nat.le_of_ble_eq_true rfl) ?_
  obtain ⟨QQ, hQQ⟩ : ∃ QQ : UR → Prop, QQ = (fun q : UR => q.1 = some (.int r.1) ∧ HW (mkw c0 c1 c2 c3 c4 c5 c6 c7 c8 c9 c10 c11 r.2 c13) d q.2) := ⟨_, rfl⟩
  rw [← hQQ]
  have hQ : ∀ h' : UH, HW (mkw c0 c1 c2 c3 c4 c5 c6 c7 c8 c9 c10 c11 r.2 c13) d h' → QQ (some (.int r.1), h') := fun h' p => by rw [hQQ]; exact ⟨rfl, p⟩
  clear hQQ
  show Ends (EX D) (u_at kl_240) (0, [some (.ref a0), none], [], h) QQ
  refine en_segs [(0, .aload_n 0, [])] (by decide +kernel) (y := (1, [some (.ref a0), none], [.ref a0], h)) rfl ?_
  refine en_get (by decide +kernel : u_at kl_240 1 = some (.getfield 322, [12, 23])) hW ha0 (by decide) rfl ?_
  refine en_if_ne (by decide +kernel : u_at kl_240 4 = some (.ifCond .ne 5, [9])) (fun b1 => ?_) (fun b1 => ?_)
  · replace hF := i_pos b1 hF
    refine en_segs [(7, .iconst (-1), [])] (by decide +kernel) (y := (8, [some (.ref a0), none], [.int (-1)], h)) rfl ?_
    obtain rfl := Option.some.inj hF
    exact en_ret (by decide +kernel : u_at kl_240 8 = some (.ireturn, [0])) rfl (hQ _ hW)
  · replace hF := i_neg b1 hF
    refine en_segs [(9, .aload_n 0, []), (10, .dup, [])] (by decide +kernel) (y := (11, [some (.ref a0), none], [.ref a0, .ref a0], h)) rfl ?_
    refine en_get (by decide +kernel : u_at kl_240 11 = some (.getfield 322, [12, 23])) hW ha0 (by decide) rfl ?_
    refine en_segs [(14, .iconst 1, []), (15, .isub, [])] (by decide +kernel) (y := (16, [some (.ref a0), none], [.int ((cI c12 23 a0) - 1), .ref a0], h)) rfl ?_
    obtain ⟨c12_2, hc12_2, hF⟩ := ob_some hF
    refine en_putI (by decide +kernel : u_at kl_240 16 = some (.putfield 322, [12, 23, 0])) hW ha0 rfl (by decide) rfl (fun h hW => ?_)
    have hW : HW (mkw c0 c1 c2 c3 c4 c5 c6 c7 c8 c9 c10 c11 c12_2 c13) d h := by rw [← Option.some.inj hc12_2]; exact hW
    refine en_segs [(19, .iconst 0, []), (20, .istore_n 1, [])] (by decide +kernel) (y := (21, [some (.ref a0), some (.int 0)], [], h)) rfl ?_
    exact (g_240 (D := D) hD ha0 _ _ _ _ _ _ hF) _ rfl rfl rfl rfl  _ hW _ hQ
def F_241 (c12 : Cl) (a0 : Nat) (p1 : Int32) (p2 : Int32) : Option Int32 :=
  F_224 c12 a0 p1 >>= fun r1 =>
  ((if r1 = 0 then
  some 0
  else
  F_223 c12 a0 p1 0 >>= fun r6 =>
  F_232 c12 a0 r6 >>= fun r7 =>
  F_171 r7 p2 >>= fun r8 =>
  if r8 = 0 then
  some 0
  else
  F_226 c12 a0 p2 >>= fun r10 =>
  F_223 c12 a0 p1 1 >>= fun r11 =>
  ald (cA c12 20 a0) 221 (82 + p2) >>= fun v12 =>
  if v12 < (r10 + r11) then
  some 0
  else
  some 1) : Option (Int32)) >>= fun (t2 : Int32) =>
  zb t2 >>= fun z4 => some z4
set_option maxRecDepth 100000 in
set_option maxHeartbeats 4000000 in
/-- HeadCountsModel.canGo -/
theorem e_241 {D : Nat} {c0 c1 c2 c3 c4 c5 c6 c7 c8 c9 c10 c11 c12 c13 : Cl} {d : Ad} {h : UH} {a0 : Nat} {p1 : Int32} {p2 : Int32} {r : Int32} (hD : 5 ≤ D) (hW : HW (mkw c0 c1 c2 c3 c4 c5 c6 c7 c8 c9 c10 c11 c12 c13) d h) (ha0 : aK d a0 = (0, 12, 0)) (hF : F_241 c12 a0 p1 p2 = some r) : ∃ q, EX D 241 [.ref a0, .int p1, .int p2] h q ∧ q.1 = some (.int r) ∧ h = q.2 := by
  obtain ⟨D, rfl⟩ : ∃ E, D = E + 1 := ⟨D - 1, by omega⟩
  unfold F_241 at hF
  refine ex_in (kl := kl_241) (nL := 3) rfl (by decide +kernel) (Nat.le_of_ble_eq_true rfl) ?_
  obtain ⟨QQ, hQQ⟩ : ∃ QQ : UR → Prop, QQ = (fun q : UR => q.1 = some (.int r) ∧ h = q.2) := ⟨_, rfl⟩
  rw [← hQQ]
  have hQ : QQ (some (.int r), h) := by rw [hQQ]; exact ⟨rfl, rfl⟩
  clear hQQ
  show Ends (EX D) (u_at kl_241) (0, [some (.ref a0), some (.int p1), some (.int p2)], [], h) QQ
  refine en_segs [(0, .aload_n 0, []), (1, .iload_n 1, [])] (by decide +kernel) (y := (2, [some (.ref a0), some (.int p1), some (.int p2)], [.int p1, .ref a0], h)) rfl ?_
  obtain ⟨r1, hr1, hF⟩ := ob_some hF
  refine en_vi (r := []) (by decide +kernel : u_at kl_241 2 = some (.invokevirtual 346, [224, 1, 12])) hW ha0 rfl rfl (Nat.le_of_ble_eq_true rfl) (e_224 (D := D) (by omega) hW ha0 hr1) (fun h' q => ?_)
  subst q
  obtain ⟨t2, hX, hK⟩ := ob_some hF
  have j3 : Ends (EX D) (u_at kl_241) (54, [some (.ref a0), some (.int p1), some (.int p2)], [.int t2], h) QQ := by
    have hF := hK
    obtain ⟨z4, hz4, hF⟩ := ob_some hF
    obtain rfl := Option.some.inj hF
    exact en_retZ (by decide +kernel : u_at kl_241 54 = some (.ireturn, [1])) hz4 (hQ)
  have hF := hX
  refine en_if_eq (by decide +kernel : u_at kl_241 5 = some (.ifCond .eq 48, [53])) (fun b5 => ?_) (fun b5 => ?_)
  · replace hF := i_pos b5 hF
    refine en_segs [(53, .iconst 0, [])] (by decide +kernel) (y := (54, [some (.ref a0), some (.int p1), some (.int p2)], [.int 0], h)) rfl ?_
    obtain rfl := Option.some.inj hF
    exact j3
  · replace hF := i_neg b5 hF
    refine en_segs [(8, .aload_n 0, []), (9, .aload_n 0, []), (10, .iload_n 1, []), (11, .iconst 0, [])] (by decide +kernel) (y := (12, [some (.ref a0), some (.int p1), some (.int p2)], [.int 0, .int p1, .ref a0, .ref a0], h)) rfl ?_
    obtain ⟨r6, hr6, hF⟩ := ob_some hF
    refine en_vi (r := [.ref a0]) (by decide +kernel : u_at kl_241 12 = some (.invokevirtual 343, [223, 2, 12])) hW ha0 rfl rfl (Nat.le_of_ble_eq_true rfl) (e_223 (D := D) (by omega) hW ha0 hr6) (fun h' q => ?_)
    subst q
    obtain ⟨r7, hr7, hF⟩ := ob_some hF
    refine en_vi (r := []) (by decide +kernel : u_at kl_241 15 = some (.invokevirtual 378, [232, 1, 12])) hW ha0 rfl rfl (Nat.le_of_ble_eq_true rfl) (e_232 (D := D) (by omega) hW ha0 hr7) (fun h' q => ?_)
    subst q
    refine en_segs [(18, .iload_n 2, [])] (by decide +kernel) (y := (19, [some (.ref a0), some (.int p1), some (.int p2)], [.int p2, .int r7], h)) rfl ?_
    obtain ⟨r8, hr8, hF⟩ := ob_some hF
    refine en_si (r := []) (by decide +kernel : u_at kl_241 19 = some (.invokestatic 361, [171, 2])) rfl rfl (Nat.le_of_ble_eq_true rfl) (e_171 (D := D) (by omega) hW hr8) (fun h' q => ?_)
    subst q
    refine en_if_eq (by decide +kernel : u_at kl_241 22 = some (.ifCond .eq 31, [53])) (fun b9 => ?_) (fun b9 => ?_)
    · replace hF := i_pos b9 hF
      refine en_segs [(53, .iconst 0, [])] (by decide +kernel) (y := (54, [some (.ref a0), some (.int p1), some (.int p2)], [.int 0], h)) rfl ?_
      obtain rfl := Option.some.inj hF
      exact j3
    · replace hF := i_neg b9 hF
      refine en_segs [(25, .aload_n 0, []), (26, .iload_n 2, [])] (by decide +kernel) (y := (27, [some (.ref a0), some (.int p1), some (.int p2)], [.int p2, .ref a0], h)) rfl ?_
      obtain ⟨r10, hr10, hF⟩ := ob_some hF
      refine en_vi (r := []) (by decide +kernel : u_at kl_241 27 = some (.invokevirtual 352, [226, 1, 12])) hW ha0 rfl rfl (Nat.le_of_ble_eq_true rfl) (e_226 (D := D) (by omega) hW ha0 hr10) (fun h' q => ?_)
      subst q
      refine en_segs [(30, .aload_n 0, []), (31, .iload_n 1, []), (32, .iconst 1, [])] (by decide +kernel) (y := (33, [some (.ref a0), some (.int p1), some (.int p2)], [.int 1, .int p1, .ref a0, .int r10], h)) rfl ?_
      obtain ⟨r11, hr11, hF⟩ := ob_some hF
      refine en_vi (r := [.int r10]) (by decide +kernel : u_at kl_241 33 = some (.invokevirtual 343, [223, 2, 12])) hW ha0 rfl rfl (Nat.le_of_ble_eq_true rfl) (e_223 (D := D) (by omega) hW ha0 hr11) (fun h' q => ?_)
      subst q
      refine en_segs [(36, .iadd, []), (37, .aload_n 0, [])] (by decide +kernel) (y := (38, [some (.ref a0), some (.int p1), some (.int p2)], [.ref a0, .int (r10 + r11)], h)) rfl ?_
      refine en_get (by decide +kernel : u_at kl_241 38 = some (.getfield 39, [12, 20])) hW ha0 (by decide) rfl ?_
      refine en_segs [(41, .bipush 82, []), (43, .iload_n 2, []), (44, .iadd, [])] (by decide +kernel) (y := (45, [some (.ref a0), some (.int p1), some (.int p2)], [.int (82 + p2), .ref (aP d 12 20 a0), .int (r10 + r11)], h)) rfl ?_
      obtain ⟨v12, hv12, hF⟩ := ob_some hF
      refine en_iald (by decide +kernel : u_at kl_241 45 = some (.iaload, [])) hW ha0 rfl (by decide) hv12 ?_
      refine en_ic_gt (by decide +kernel : u_at kl_241 46 = some (.if_icmp .gt 7, [53])) (fun b13 => ?_) (fun b13 => ?_)
      · replace hF := i_pos b13 hF
        refine en_segs [(53, .iconst 0, [])] (by decide +kernel) (y := (54, [some (.ref a0), some (.int p1), some (.int p2)], [.int 0], h)) rfl ?_
        obtain rfl := Option.some.inj hF
        exact j3
      · replace hF := i_neg b13 hF
        refine en_segs [(49, .iconst 1, []), (50, .goto 4, [54])] (by decide +kernel) (y := (54, [some (.ref a0), some (.int p1), some (.int p2)], [.int 1], h)) rfl ?_
        obtain rfl := Option.some.inj hF
        exact j3
def F_242 (c12 : Cl) (a0 : Nat) : Option Cl :=
  ald (cA c12 20 a0) 221 4 >>= fun v1 =>
  ast c12 20 a0 221 4 (v1 + 1) >>= fun c12_2 =>
  some c12_2
set_option maxRecDepth 100000 in
set_option maxHeartbeats 4000000 in
/-- HeadCountsModel.minuteComes -/
theorem e_242 {D : Nat} {c0 c1 c2 c3 c4 c5 c6 c7 c8 c9 c10 c11 c12 c13 : Cl} {d : Ad} {h : UH} {a0 : Nat} {r : Cl} (hD : 1 ≤ D) (hW : HW (mkw c0 c1 c2 c3 c4 c5 c6 c7 c8 c9 c10 c11 c12 c13) d h) (ha0 : aK d a0 = (0, 12, 0)) (hF : F_242 c12 a0 = some r) : ∃ q, EX D 242 [.ref a0] h q ∧ q.1 = none ∧ HW (mkw c0 c1 c2 c3 c4 c5 c6 c7 c8 c9 c10 c11 r c13) d q.2 := by
  obtain ⟨D, rfl⟩ : ∃ E, D = E + 1 := ⟨D - 1, by omega⟩
  unfold F_242 at hF
  refine ex_in (kl := kl_242) (nL := 1) rfl (by decide +kernel) (Nat.le_of_ble_eq_true rfl) ?_
  obtain ⟨QQ, hQQ⟩ : ∃ QQ : UR → Prop, QQ = (fun q : UR => q.1 = none ∧ HW (mkw c0 c1 c2 c3 c4 c5 c6 c7 c8 c9 c10 c11 r c13) d q.2) := ⟨_, rfl⟩
  rw [← hQQ]
  have hQ : ∀ h' : UH, HW (mkw c0 c1 c2 c3 c4 c5 c6 c7 c8 c9 c10 c11 r c13) d h' → QQ (none, h') := fun h' p => by rw [hQQ]; exact ⟨rfl, p⟩
  clear hQQ
  show Ends (EX D) (u_at kl_242) (0, [some (.ref a0)], [], h) QQ
  refine en_segs [(0, .aload_n 0, [])] (by decide +kernel) (y := (1, [some (.ref a0)], [.ref a0], h)) rfl ?_
  refine en_get (by decide +kernel : u_at kl_242 1 = some (.getfield 39, [12, 20])) hW ha0 (by decide) rfl ?_
  refine en_segs [(4, .iconst 4, []), (5, .dup2, [])] (by decide +kernel) (y := (6, [some (.ref a0)], [.int 4, .ref (aP d 12 20 a0), .int 4, .ref (aP d 12 20 a0)], h)) rfl ?_
  obtain ⟨v1, hv1, hF⟩ := ob_some hF
  refine en_iald (by decide +kernel : u_at kl_242 6 = some (.iaload, [])) hW ha0 rfl (by decide) hv1 ?_
  refine en_segs [(7, .iconst 1, []), (8, .iadd, [])] (by decide +kernel) (y := (9, [some (.ref a0)], [.int (v1 + 1), .int 4, .ref (aP d 12 20 a0)], h)) rfl ?_
  obtain ⟨c12_2, hc12_2, hF⟩ := ob_some hF
  refine en_iast (by decide +kernel : u_at kl_242 9 = some (.iastore, [])) hW ha0 rfl (by decide) hc12_2 (fun h hW => ?_)
  have hW : HW (mkw c0 c1 c2 c3 c4 c5 c6 c7 c8 c9 c10 c11 c12_2 c13) d h := hW
  obtain rfl := Option.some.inj hF
  exact en_ret (by decide +kernel : u_at kl_242 10 = some (.return_, [])) rfl (hQ _ hW)
def G_243 (c12 : Cl) (a0 : Nat) (lab : Nat) (xs : List Int32) (ys : List Int64) (zs : List Nat) : Option Cl := match lab, xs, ys, zs with
  | 0, [x1, x2, x3], [], [] =>
    if 6 ≤ x3 then
    some c12
    else
    ald (cA c12 20 a0) 221 ((94 + (3 * x3)) + 2) >>= fun v4 =>
    ald (cA c12 20 a0) 221 4 >>= fun v5 =>
    if v4 ≤ v5 then
    ast c12 20 a0 221 (94 + (3 * x3)) x1 >>= fun c12_7 =>
    ast c12_7 20 a0 221 ((94 + (3 * x3)) + 1) x2 >>= fun c12_8 =>
    ald (cA c12_8 20 a0) 221 4 >>= fun v9 =>
    ald (cA c12_8 20 a0) 221 7 >>= fun v10 =>
    ast c12_8 20 a0 221 ((94 + (3 * x3)) + 2) (v9 + v10) >>= fun c12_11 =>
    some c12_11
    else
    G_243 c12 a0 0 [x1, x2, x3 + 1] [] []
  | _, _, _, _ => none
partial_fixpoint
set_option maxRecDepth 100000 in
set_option maxHeartbeats 4000000 in
theorem g_243 {D : Nat} (hD : 1 ≤ D + 1) {c0 c1 c2 c3 c4 c5 c6 c7 c8 c9 c10 c11 c12 c13 : Cl} {d : Ad} {a0 : Nat} (ha0 : aK d a0 = (0, 12, 0)) : ∀ (lab : Nat) (xs : List Int32) (ys : List Int64) (zs : List Nat) (r : Cl), G_243 c12 a0 lab xs ys zs = some r →
    (∀ (x1 : Int32) (x2 : Int32) (x3 : Int32), lab = 0 → xs = [x1, x2, x3] → ys = [] → zs = [] → ∀ h : UH, HW (mkw c0 c1 c2 c3 c4 c5 c6 c7 c8 c9 c10 c11 c12 c13) d h → ∀ QQ : UR → Prop, (∀ h' : UH, HW (mkw c0 c1 c2 c3 c4 c5 c6 c7 c8 c9 c10 c11 r c13) d h' → QQ (none, h')) → Ends (EX D) (u_at kl_243) (13, [some (.ref a0), some (.int x1), some (.int x2), some (.int x3), none], [], h) QQ) := by
  refine G_243.partial_correctness _ _ (motive := fun lab xs ys zs r =>
    (∀ (x1 : Int32) (x2 : Int32) (x3 : Int32), lab = 0 → xs = [x1, x2, x3] → ys = [] → zs = [] → ∀ h : UH, HW (mkw c0 c1 c2 c3 c4 c5 c6 c7 c8 c9 c10 c11 c12 c13) d h → ∀ QQ : UR → Prop, (∀ h' : UH, HW (mkw c0 c1 c2 c3 c4 c5 c6 c7 c8 c9 c10 c11 r c13) d h' → QQ (none, h')) → Ends (EX D) (u_at kl_243) (13, [some (.ref a0), some (.int x1), some (.int x2), some (.int x3), none], [], h) QQ)) ?_
  intro G ih lab xs ys zs r hF
  · intro x1 x2 x3 e1 e2 e3 e4 h hW QQ hQ
    subst e1 e2 e3 e4
    refine en_segs [(13, .iload_n 3, []), (14, .bipush 6, [])] (by decide +kernel) (y := (16, [some (.ref a0), some (.int x1), some (.int x2), some (.int x3), none], [.int 6, .int x3], h)) rfl ?_
    refine en_ic_ge (by decide +kernel : u_at kl_243 16 = some (.if_icmp .ge 80, [96])) (fun b3 => ?_) (fun b3 => ?_)
    · replace hF := i_pos b3 hF
      obtain rfl := Option.some.inj hF
      exact en_ret (by decide +kernel : u_at kl_243 96 = some (.return_, [])) rfl (hQ _ hW)
    · replace hF := i_neg b3 hF
      refine en_segs [(19, .bipush 94, []), (21, .iconst 3, []), (22, .iload_n 3, []), (23, .imul, []), (24, .iadd, []), (25, .istore 4, []), (27, .aload_n 0, [])] (by decide +kernel) (y := (28, [some (.ref a0), some (.int x1), some (.int x2), some (.int x3), some (.int (94 + (3 * x3)))], [.ref a0], h)) rfl ?_
      refine en_get (by decide +kernel : u_at kl_243 28 = some (.getfield 39, [12, 20])) hW ha0 (by decide) rfl ?_
      refine en_segs [(31, .iload 4, []), (33, .iconst 2, []), (34, .iadd, [])] (by decide +kernel) (y := (35, [some (.ref a0), some (.int x1), some (.int x2), some (.int x3), some (.int (94 + (3 * x3)))], [.int ((94 + (3 * x3)) + 2), .ref (aP d 12 20 a0)], h)) rfl ?_
      obtain ⟨v4, hv4, hF⟩ := ob_some hF
      refine en_iald (by decide +kernel : u_at kl_243 35 = some (.iaload, [])) hW ha0 rfl (by decide) hv4 ?_
      refine en_segs [(36, .aload_n 0, [])] (by decide +kernel) (y := (37, [some (.ref a0), some (.int x1), some (.int x2), some (.int x3), some (.int (94 + (3 * x3)))], [.ref a0, .int v4], h)) rfl ?_
      refine en_get (by decide +kernel : u_at kl_243 37 = some (.getfield 39, [12, 20])) hW ha0 (by decide) rfl ?_
      refine en_segs [(40, .iconst 4, [])] (by decide +kernel) (y := (41, [some (.ref a0), some (.int x1), some (.int x2), some (.int x3), some (.int (94 + (3 * x3)))], [.int 4, .ref (aP d 12 20 a0), .int v4], h)) rfl ?_
      obtain ⟨v5, hv5, hF⟩ := ob_some hF
      refine en_iald (by decide +kernel : u_at kl_243 41 = some (.iaload, [])) hW ha0 rfl (by decide) hv5 ?_
      refine en_ic_le (by decide +kernel : u_at kl_243 42 = some (.if_icmp .le 6, [48])) (fun b6 => ?_) (fun b6 => ?_)
      · replace hF := i_pos b6 hF
        refine en_segs [(48, .aload_n 0, [])] (by decide +kernel) (y := (49, [some (.ref a0), some (.int x1), some (.int x2), some (.int x3), some (.int (94 + (3 * x3)))], [.ref a0], h)) rfl ?_
        refine en_get (by decide +kernel : u_at kl_243 49 = some (.getfield 39, [12, 20])) hW ha0 (by decide) rfl ?_
        refine en_segs [(52, .iload 4, []), (54, .iload_n 1, [])] (by decide +kernel) (y := (55, [some (.ref a0), some (.int x1), some (.int x2), some (.int x3), some (.int (94 + (3 * x3)))], [.int x1, .int (94 + (3 * x3)), .ref (aP d 12 20 a0)], h)) rfl ?_
        obtain ⟨c12_7, hc12_7, hF⟩ := ob_some hF
        refine en_iast (by decide +kernel : u_at kl_243 55 = some (.iastore, [])) hW ha0 rfl (by decide) hc12_7 (fun h hW => ?_)
        have hW : HW (mkw c0 c1 c2 c3 c4 c5 c6 c7 c8 c9 c10 c11 c12_7 c13) d h := hW
        refine en_segs [(56, .aload_n 0, [])] (by decide +kernel) (y := (57, [some (.ref a0), some (.int x1), some (.int x2), some (.int x3), some (.int (94 + (3 * x3)))], [.ref a0], h)) rfl ?_
        refine en_get (by decide +kernel : u_at kl_243 57 = some (.getfield 39, [12, 20])) hW ha0 (by decide) rfl ?_
        refine en_segs [(60, .iload 4, []), (62, .iconst 1, []), (63, .iadd, []), (64, .iload_n 2, [])] (by decide +kernel) (y := (65, [some (.ref a0), some (.int x1), some (.int x2), some (.int x3), some (.int (94 + (3 * x3)))], [.int x2, .int ((94 + (3 * x3)) + 1), .ref (aP d 12 20 a0)], h)) rfl ?_
        obtain ⟨c12_8, hc12_8, hF⟩ := ob_some hF
        refine en_iast (by decide +kernel : u_at kl_243 65 = some (.iastore, [])) hW ha0 rfl (by decide) hc12_8 (fun h hW => ?_)
        have hW : HW (mkw c0 c1 c2 c3 c4 c5 c6 c7 c8 c9 c10 c11 c12_8 c13) d h := hW
        refine en_segs [(66, .aload_n 0, [])] (by decide +kernel) (y := (67, [some (.ref a0), some (.int x1), some (.int x2), some (.int x3), some (.int (94 + (3 * x3)))], [.ref a0], h)) rfl ?_
        refine en_get (by decide +kernel : u_at kl_243 67 = some (.getfield 39, [12, 20])) hW ha0 (by decide) rfl ?_
        refine en_segs [(70, .iload 4, []), (72, .iconst 2, []), (73, .iadd, []), (74, .aload_n 0, [])] (by decide +kernel) (y := (75, [some (.ref a0), some (.int x1), some (.int x2), some (.int x3), some (.int (94 + (3 * x3)))], [.ref a0, .int ((94 + (3 * x3)) + 2), .ref (aP d 12 20 a0)], h)) rfl ?_
        refine en_get (by decide +kernel : u_at kl_243 75 = some (.getfield 39, [12, 20])) hW ha0 (by decide) rfl ?_
        refine en_segs [(78, .iconst 4, [])] (by decide +kernel) (y := (79, [some (.ref a0), some (.int x1), some (.int x2), some (.int x3), some (.int (94 + (3 * x3)))], [.int 4, .ref (aP d 12 20 a0), .int ((94 + (3 * x3)) + 2), .ref (aP d 12 20 a0)], h)) rfl ?_
        obtain ⟨v9, hv9, hF⟩ := ob_some hF
        refine en_iald (by decide +kernel : u_at kl_243 79 = some (.iaload, [])) hW ha0 rfl (by decide) hv9 ?_
        refine en_segs [(80, .aload_n 0, [])] (by decide +kernel) (y := (81, [some (.ref a0), some (.int x1), some (.int x2), some (.int x3), some (.int (94 + (3 * x3)))], [.ref a0, .int v9, .int ((94 + (3 * x3)) + 2), .ref (aP d 12 20 a0)], h)) rfl ?_
        refine en_get (by decide +kernel : u_at kl_243 81 = some (.getfield 39, [12, 20])) hW ha0 (by decide) rfl ?_
        refine en_segs [(84, .bipush 7, [])] (by decide +kernel) (y := (86, [some (.ref a0), some (.int x1), some (.int x2), some (.int x3), some (.int (94 + (3 * x3)))], [.int 7, .ref (aP d 12 20 a0), .int v9, .int ((94 + (3 * x3)) + 2), .ref (aP d 12 20 a0)], h)) rfl ?_
        obtain ⟨v10, hv10, hF⟩ := ob_some hF
        refine en_iald (by decide +kernel : u_at kl_243 86 = some (.iaload, [])) hW ha0 rfl (by decide) hv10 ?_
        refine en_segs [(87, .iadd, [])] (by decide +kernel) (y := (88, [some (.ref a0), some (.int x1), some (.int x2), some (.int x3), some (.int (94 + (3 * x3)))], [.int (v9 + v10), .int ((94 + (3 * x3)) + 2), .ref (aP d 12 20 a0)], h)) rfl ?_
        obtain ⟨c12_11, hc12_11, hF⟩ := ob_some hF
        refine en_iast (by decide +kernel : u_at kl_243 88 = some (.iastore, [])) hW ha0 rfl (by decide) hc12_11 (fun h hW => ?_)
        have hW : HW (mkw c0 c1 c2 c3 c4 c5 c6 c7 c8 c9 c10 c11 c12_11 c13) d h := hW
        obtain rfl := Option.some.inj hF
        exact en_ret (by decide +kernel : u_at kl_243 89 = some (.return_, [])) rfl (hQ _ hW)
      · replace hF := i_neg b6 hF
        refine en_segs [(45, .goto 45, [90]), (90, .iinc 3 1, []), (93, .goto (-80), [13])] (by decide +kernel) (y := (13, [some (.ref a0), some (.int x1), some (.int x2), some (.int (x3 + 1)), some (.int (94 + (3 * x3)))], [], h)) rfl ?_
        refine en_fg (fg_k (fg_k (fg_k (fg_k (fg_d fg_0))))) ?_
        exact (ih _ _ _ _ _ hF) _ _ _ rfl rfl rfl rfl  _ hW _ hQ
def F_243 (c12 : Cl) (a0 : Nat) (p1 : Int32) (p2 : Int32) : Option Cl :=
  ald (cA c12 20 a0) 221 7 >>= fun v1 =>
  if v1 = 0 then
  some c12
  else
  G_243 c12 a0 0 [p1, p2, 0] [] []
set_option maxRecDepth 100000 in
set_option maxHeartbeats 4000000 in
/-- HeadCountsModel.leavesEcho -/
theorem e_243 {D : Nat} {c0 c1 c2 c3 c4 c5 c6 c7 c8 c9 c10 c11 c12 c13 : Cl} {d : Ad} {h : UH} {a0 : Nat} {p1 : Int32} {p2 : Int32} {r : Cl} (hD : 1 ≤ D) (hW : HW (mkw c0 c1 c2 c3 c4 c5 c6 c7 c8 c9 c10 c11 c12 c13) d h) (ha0 : aK d a0 = (0, 12, 0)) (hF : F_243 c12 a0 p1 p2 = some r) : ∃ q, EX D 243 [.ref a0, .int p1, .int p2] h q ∧ q.1 = none ∧ HW (mkw c0 c1 c2 c3 c4 c5 c6 c7 c8 c9 c10 c11 r c13) d q.2 := by
  obtain ⟨D, rfl⟩ : ∃ E, D = E + 1 := ⟨D - 1, by omega⟩
  unfold F_243 at hF
  refine ex_in (kl := kl_243) (nL := 5) rfl (by decide +kernel) (Nat.le_of_ble_eq_true rfl) ?_
  obtain ⟨QQ, hQQ⟩ : ∃ QQ : UR → Prop, QQ = (fun q : UR => q.1 = none ∧ HW (mkw c0 c1 c2 c3 c4 c5 c6 c7 c8 c9 c10 c11 r c13) d q.2) := ⟨_, rfl⟩
  rw [← hQQ]
  have hQ : ∀ h' : UH, HW (mkw c0 c1 c2 c3 c4 c5 c6 c7 c8 c9 c10 c11 r c13) d h' → QQ (none, h') := fun h' p => by rw [hQQ]; exact ⟨rfl, p⟩
  clear hQQ
  show Ends (EX D) (u_at kl_243) (0, [some (.ref a0), some (.int p1), some (.int p2), none, none], [], h) QQ
  refine en_segs [(0, .aload_n 0, [])] (by decide +kernel) (y := (1, [some (.ref a0), some (.int p1), some (.int p2), none, none], [.ref a0], h)) rfl ?_
  refine en_get (by decide +kernel : u_at kl_243 1 = some (.getfield 39, [12, 20])) hW ha0 (by decide) rfl ?_
  refine en_segs [(4, .bipush 7, [])] (by decide +kernel) (y := (6, [some (.ref a0), some (.int p1), some (.int p2), none, none], [.int 7, .ref (aP d 12 20 a0)], h)) rfl ?_
  obtain ⟨v1, hv1, hF⟩ := ob_some hF
  refine en_iald (by decide +kernel : u_at kl_243 6 = some (.iaload, [])) hW ha0 rfl (by decide) hv1 ?_
  refine en_if_ne (by decide +kernel : u_at kl_243 7 = some (.ifCond .ne 4, [11])) (fun b2 => ?_) (fun b2 => ?_)
  · replace hF := i_pos b2 hF
    obtain rfl := Option.some.inj hF
    exact en_ret (by decide +kernel : u_at kl_243 10 = some (.return_, [])) rfl (hQ _ hW)
  · replace hF := i_neg b2 hF
    refine en_segs [(11, .iconst 0, []), (12, .istore_n 3, [])] (by decide +kernel) (y := (13, [some (.ref a0), some (.int p1), some (.int p2), some (.int 0), none], [], h)) rfl ?_
    exact (g_243 (D := D) hD ha0 _ _ _ _ _ hF) _ _ _ rfl rfl rfl rfl  _ hW _ hQ
def F_244 (c12 : Cl) (a0 : Nat) (p1 : Int32) (p2 : Int32) : Option Cl :=
  ald (cA c12 20 a0) 221 (40 + (6 * p1)) >>= fun v1 =>
  ast c12 20 a0 221 ((40 + (6 * p1)) + 3) v1 >>= fun c12_2 =>
  ast c12_2 20 a0 221 (40 + (6 * p1)) p2 >>= fun c12_3 =>
  ald (cA c12_3 20 a0) 221 ((40 + (6 * p1)) + 4) >>= fun v4 =>
  ast c12_3 20 a0 221 ((40 + (6 * p1)) + 4) (v4 + 1) >>= fun c12_5 =>
  ald (cA c12_5 20 a0) 221 5 >>= fun v6 =>
  ast c12_5 20 a0 221 5 (v6 + 1) >>= fun c12_7 =>
  some c12_7
set_option maxRecDepth 100000 in
set_option maxHeartbeats 4000000 in
/-- HeadCountsModel.goes -/
theorem e_244 {D : Nat} {c0 c1 c2 c3 c4 c5 c6 c7 c8 c9 c10 c11 c12 c13 : Cl} {d : Ad} {h : UH} {a0 : Nat} {p1 : Int32} {p2 : Int32} {r : Cl} (hD : 1 ≤ D) (hW : HW (mkw c0 c1 c2 c3 c4 c5 c6 c7 c8 c9 c10 c11 c12 c13) d h) (ha0 : aK d a0 = (0, 12, 0)) (hF : F_244 c12 a0 p1 p2 = some r) : ∃ q, EX D 244 [.ref a0, .int p1, .int p2] h q ∧ q.1 = none ∧ HW (mkw c0 c1 c2 c3 c4 c5 c6 c7 c8 c9 c10 c11 r c13) d q.2 := by
  obtain ⟨D, rfl⟩ : ∃ E, D = E + 1 := ⟨D - 1, by omega⟩
  unfold F_244 at hF
  refine ex_in (kl := kl_244) (nL := 4) rfl (by decide +kernel) (Nat.le_of_ble_eq_true rfl) ?_
  obtain ⟨QQ, hQQ⟩ : ∃ QQ : UR → Prop, QQ = (fun q : UR => q.1 = none ∧ HW (mkw c0 c1 c2 c3 c4 c5 c6 c7 c8 c9 c10 c11 r c13) d q.2) := ⟨_, rfl⟩
  rw [← hQQ]
  have hQ : ∀ h' : UH, HW (mkw c0 c1 c2 c3 c4 c5 c6 c7 c8 c9 c10 c11 r c13) d h' → QQ (none, h') := fun h' p => by rw [hQQ]; exact ⟨rfl, p⟩
  clear hQQ
  show Ends (EX D) (u_at kl_244) (0, [some (.ref a0), some (.int p1), some (.int p2), none], [], h) QQ
  refine en_segs [(0, .bipush 40, []), (2, .bipush 6, []), (4, .iload_n 1, []), (5, .imul, []), (6, .iadd, []), (7, .istore_n 3, []), (8, .aload_n 0, [])] (by decide +kernel) (y := (9, [some (.ref a0), some (.int p1), some (.int p2), some (.int (40 + (6 * p1)))], [.ref a0], h)) rfl ?_
  refine en_get (by decide +kernel : u_at kl_244 9 = some (.getfield 39, [12, 20])) hW ha0 (by decide) rfl ?_
  refine en_segs [(12, .iload_n 3, []), (13, .iconst 3, []), (14, .iadd, []), (15, .aload_n 0, [])] (by decide +kernel) (y := (16, [some (.ref a0), some (.int p1), some (.int p2), some (.int (40 + (6 * p1)))], [.ref a0, .int ((40 + (6 * p1)) + 3), .ref (aP d 12 20 a0)], h)) rfl ?_
  refine en_get (by decide +kernel : u_at kl_244 16 = some (.getfield 39, [12, 20])) hW ha0 (by decide) rfl ?_
  refine en_segs [(19, .iload_n 3, [])] (by decide +kernel) (y := (20, [some (.ref a0), some (.int p1), some (.int p2), some (.int (40 + (6 * p1)))], [.int (40 + (6 * p1)), .ref (aP d 12 20 a0), .int ((40 + (6 * p1)) + 3), .ref (aP d 12 20 a0)], h)) rfl ?_
  obtain ⟨v1, hv1, hF⟩ := ob_some hF
  refine en_iald (by decide +kernel : u_at kl_244 20 = some (.iaload, [])) hW ha0 rfl (by decide) hv1 ?_
  obtain ⟨c12_2, hc12_2, hF⟩ := ob_some hF
  refine en_iast (by decide +kernel : u_at kl_244 21 = some (.iastore, [])) hW ha0 rfl (by decide) hc12_2 (fun h hW => ?_)
  have hW : HW (mkw c0 c1 c2 c3 c4 c5 c6 c7 c8 c9 c10 c11 c12_2 c13) d h := hW
  refine en_segs [(22, .aload_n 0, [])] (by decide +kernel) (y := (23, [some (.ref a0), some (.int p1), some (.int p2), some (.int (40 + (6 * p1)))], [.ref a0], h)) rfl ?_
  refine en_get (by decide +kernel : u_at kl_244 23 = some (.getfield 39, [12, 20])) hW ha0 (by decide) rfl ?_
  refine en_segs [(26, .iload_n 3, []), (27, .iload_n 2, [])] (by decide +kernel) (y := (28, [some (.ref a0), some (.int p1), some (.int p2), some (.int (40 + (6 * p1)))], [.int p2, .int (40 + (6 * p1)), .ref (aP d 12 20 a0)], h)) rfl ?_
  obtain ⟨c12_3, hc12_3, hF⟩ := ob_some hF
  refine en_iast (by decide +kernel : u_at kl_244 28 = some (.iastore, [])) hW ha0 rfl (by decide) hc12_3 (fun h hW => ?_)
  have hW : HW (mkw c0 c1 c2 c3 c4 c5 c6 c7 c8 c9 c10 c11 c12_3 c13) d h := hW
  refine en_segs [(29, .aload_n 0, [])] (by decide +kernel) (y := (30, [some (.ref a0), some (.int p1), some (.int p2), some (.int (40 + (6 * p1)))], [.ref a0], h)) rfl ?_
  refine en_get (by decide +kernel : u_at kl_244 30 = some (.getfield 39, [12, 20])) hW ha0 (by decide) rfl ?_
  refine en_segs [(33, .iload_n 3, []), (34, .iconst 4, []), (35, .iadd, []), (36, .dup2, [])] (by decide +kernel) (y := (37, [some (.ref a0), some (.int p1), some (.int p2), some (.int (40 + (6 * p1)))], [.int ((40 + (6 * p1)) + 4), .ref (aP d 12 20 a0), .int ((40 + (6 * p1)) + 4), .ref (aP d 12 20 a0)], h)) rfl ?_
  obtain ⟨v4, hv4, hF⟩ := ob_some hF
  refine en_iald (by decide +kernel : u_at kl_244 37 = some (.iaload, [])) hW ha0 rfl (by decide) hv4 ?_
  refine en_segs [(38, .iconst 1, []), (39, .iadd, [])] (by decide +kernel) (y := (40, [some (.ref a0), some (.int p1), some (.int p2), some (.int (40 + (6 * p1)))], [.int (v4 + 1), .int ((40 + (6 * p1)) + 4), .ref (aP d 12 20 a0)], h)) rfl ?_
  obtain ⟨c12_5, hc12_5, hF⟩ := ob_some hF
  refine en_iast (by decide +kernel : u_at kl_244 40 = some (.iastore, [])) hW ha0 rfl (by decide) hc12_5 (fun h hW => ?_)
  have hW : HW (mkw c0 c1 c2 c3 c4 c5 c6 c7 c8 c9 c10 c11 c12_5 c13) d h := hW
  refine en_segs [(41, .aload_n 0, [])] (by decide +kernel) (y := (42, [some (.ref a0), some (.int p1), some (.int p2), some (.int (40 + (6 * p1)))], [.ref a0], h)) rfl ?_
  refine en_get (by decide +kernel : u_at kl_244 42 = some (.getfield 39, [12, 20])) hW ha0 (by decide) rfl ?_
  refine en_segs [(45, .iconst 5, []), (46, .dup2, [])] (by decide +kernel) (y := (47, [some (.ref a0), some (.int p1), some (.int p2), some (.int (40 + (6 * p1)))], [.int 5, .ref (aP d 12 20 a0), .int 5, .ref (aP d 12 20 a0)], h)) rfl ?_
  obtain ⟨v6, hv6, hF⟩ := ob_some hF
  refine en_iald (by decide +kernel : u_at kl_244 47 = some (.iaload, [])) hW ha0 rfl (by decide) hv6 ?_
  refine en_segs [(48, .iconst 1, []), (49, .iadd, [])] (by decide +kernel) (y := (50, [some (.ref a0), some (.int p1), some (.int p2), some (.int (40 + (6 * p1)))], [.int (v6 + 1), .int 5, .ref (aP d 12 20 a0)], h)) rfl ?_
  obtain ⟨c12_7, hc12_7, hF⟩ := ob_some hF
  refine en_iast (by decide +kernel : u_at kl_244 50 = some (.iastore, [])) hW ha0 rfl (by decide) hc12_7 (fun h hW => ?_)
  have hW : HW (mkw c0 c1 c2 c3 c4 c5 c6 c7 c8 c9 c10 c11 c12_7 c13) d h := hW
  obtain rfl := Option.some.inj hF
  exact en_ret (by decide +kernel : u_at kl_244 51 = some (.return_, [])) rfl (hQ _ hW)
def F_245 (c12 : Cl) (a0 : Nat) (p1 : Int32) (p2 : Int32) (p3 : Int32) : Option (Int32 × Cl) :=
  F_221 c12 a0 p1 >>= fun r1 =>
  if r1 = 0 then
  some ((-1), c12)
  else
  F_219 c12 a0 p2 >>= fun r3 =>
  if r3 = 0 then
  some ((-1), c12)
  else
  F_241 c12 a0 p1 p2 >>= fun r5 =>
  if r5 = 0 then
  some ((-1), c12)
  else
  ald (cA c12 20 a0) 221 4 >>= fun v7 =>
  if v7 = 9999 then
  some ((-1), c12)
  else
  F_239 c12 a0 >>= fun r9 =>
  F_223 r9 a0 p1 0 >>= fun r10 =>
  F_244 r9 a0 p1 p2 >>= fun r11 =>
  F_242 r11 a0 >>= fun r12 =>
  ((if p3 = 0 then
  some r12
  else
  F_223 r12 a0 p1 1 >>= fun r18 =>
  F_243 r12 a0 r10 r18 >>= fun r19 =>
  some r19) : Option (Cl)) >>= fun (t13 : Cl) =>
  F_227 t13 a0 >>= fun r15 =>
  ald (cA r15 20 a0) 221 4 >>= fun v16 =>
  some (v16, r15)
set_option maxRecDepth 100000 in
set_option maxHeartbeats 4000000 in
/-- HeadCountsModel.go -/
theorem e_245 {D : Nat} {c0 c1 c2 c3 c4 c5 c6 c7 c8 c9 c10 c11 c12 c13 : Cl} {d : Ad} {h : UH} {a0 : Nat} {p1 : Int32} {p2 : Int32} {p3 : Int32} {r : (Int32 × Cl)} (hD : 6 ≤ D) (hW : HW (mkw c0 c1 c2 c3 c4 c5 c6 c7 c8 c9 c10 c11 c12 c13) d h) (ha0 : aK d a0 = (0, 12, 0)) (hF : F_245 c12 a0 p1 p2 p3 = some r) : ∃ q, EX D 245 [.ref a0, .int p1, .int p2, .int p3] h q ∧ q.1 = some (.int r.1) ∧ HW (mkw c0 c1 c2 c3 c4 c5 c6 c7 c8 c9 c10 c11 r.2 c13) d q.2 := by
  obtain ⟨D, rfl⟩ : ∃ E, D = E + 1 := ⟨D - 1, by omega⟩
  unfold F_245 at hF
  refine ex_in (kl := kl_245) (nL := 5) rfl (by decide +kernel) (Nat.le_of_ble_eq_true rfl) ?_
  obtain ⟨QQ, hQQ⟩ : ∃ QQ : UR → Prop, QQ = (fun q : UR => q.1 = some (.int r.1) ∧ HW (mkw c0 c1 c2 c3 c4 c5 c6 c7 c8 c9 c10 c11 r.2 c13) d q.2) := ⟨_, rfl⟩
  rw [← hQQ]
  have hQ : ∀ h' : UH, HW (mkw c0 c1 c2 c3 c4 c5 c6 c7 c8 c9 c10 c11 r.2 c13) d h' → QQ (some (.int r.1), h') := fun h' p => by rw [hQQ]; exact ⟨rfl, p⟩
  clear hQQ
  show Ends (EX D) (u_at kl_245) (0, [some (.ref a0), some (.int p1), some (.int p2), some (.int p3), none], [], h) QQ
  refine en_segs [(0, .aload_n 0, []), (1, .iload_n 1, [])] (by decide +kernel) (y := (2, [some (.ref a0), some (.int p1), some (.int p2), some (.int p3), none], [.int p1, .ref a0], h)) rfl ?_
  obtain ⟨r1, hr1, hF⟩ := ob_some hF
  refine en_vi (r := []) (by decide +kernel : u_at kl_245 2 = some (.invokevirtual 367, [221, 1, 12])) hW ha0 rfl rfl (Nat.le_of_ble_eq_true rfl) (e_221 (D := D) (by omega) hW ha0 hr1) (fun h' q => ?_)
  subst q
  refine en_if_eq (by decide +kernel : u_at kl_245 5 = some (.ifCond .eq 32, [37])) (fun b2 => ?_) (fun b2 => ?_)
  · replace hF := i_pos b2 hF
    refine en_segs [(37, .iconst (-1), [])] (by decide +kernel) (y := (38, [some (.ref a0), some (.int p1), some (.int p2), some (.int p3), none], [.int (-1)], h)) rfl ?_
    obtain rfl := Option.some.inj hF
    exact en_ret (by decide +kernel : u_at kl_245 38 = some (.ireturn, [0])) rfl (hQ _ hW)
  · replace hF := i_neg b2 hF
    refine en_segs [(8, .aload_n 0, []), (9, .iload_n 2, [])] (by decide +kernel) (y := (10, [some (.ref a0), some (.int p1), some (.int p2), some (.int p3), none], [.int p2, .ref a0], h)) rfl ?_
    obtain ⟨r3, hr3, hF⟩ := ob_some hF
    refine en_vi (r := []) (by decide +kernel : u_at kl_245 10 = some (.invokevirtual 372, [219, 1, 12])) hW ha0 rfl rfl (Nat.le_of_ble_eq_true rfl) (e_219 (D := D) (by omega) hW ha0 hr3) (fun h' q => ?_)
    subst q
    refine en_if_eq (by decide +kernel : u_at kl_245 13 = some (.ifCond .eq 24, [37])) (fun b4 => ?_) (fun b4 => ?_)
    · replace hF := i_pos b4 hF
      refine en_segs [(37, .iconst (-1), [])] (by decide +kernel) (y := (38, [some (.ref a0), some (.int p1), some (.int p2), some (.int p3), none], [.int (-1)], h)) rfl ?_
      obtain rfl := Option.some.inj hF
      exact en_ret (by decide +kernel : u_at kl_245 38 = some (.ireturn, [0])) rfl (hQ _ hW)
    · replace hF := i_neg b4 hF
      refine en_segs [(16, .aload_n 0, []), (17, .iload_n 1, []), (18, .iload_n 2, [])] (by decide +kernel) (y := (19, [some (.ref a0), some (.int p1), some (.int p2), some (.int p3), none], [.int p2, .int p1, .ref a0], h)) rfl ?_
      obtain ⟨r5, hr5, hF⟩ := ob_some hF
      refine en_vi (r := []) (by decide +kernel : u_at kl_245 19 = some (.invokevirtual 394, [241, 2, 12])) hW ha0 rfl rfl (Nat.le_of_ble_eq_true rfl) (e_241 (D := D) (by omega) hW ha0 hr5) (fun h' q => ?_)
      subst q
      refine en_if_eq (by decide +kernel : u_at kl_245 22 = some (.ifCond .eq 15, [37])) (fun b6 => ?_) (fun b6 => ?_)
      · replace hF := i_pos b6 hF
        refine en_segs [(37, .iconst (-1), [])] (by decide +kernel) (y := (38, [some (.ref a0), some (.int p1), some (.int p2), some (.int p3), none], [.int (-1)], h)) rfl ?_
        obtain rfl := Option.some.inj hF
        exact en_ret (by decide +kernel : u_at kl_245 38 = some (.ireturn, [0])) rfl (hQ _ hW)
      · replace hF := i_neg b6 hF
        refine en_segs [(25, .aload_n 0, [])] (by decide +kernel) (y := (26, [some (.ref a0), some (.int p1), some (.int p2), some (.int p3), none], [.ref a0], h)) rfl ?_
        refine en_get (by decide +kernel : u_at kl_245 26 = some (.getfield 39, [12, 20])) hW ha0 (by decide) rfl ?_
        refine en_segs [(29, .iconst 4, [])] (by decide +kernel) (y := (30, [some (.ref a0), some (.int p1), some (.int p2), some (.int p3), none], [.int 4, .ref (aP d 12 20 a0)], h)) rfl ?_
        obtain ⟨v7, hv7, hF⟩ := ob_some hF
        refine en_iald (by decide +kernel : u_at kl_245 30 = some (.iaload, [])) hW ha0 rfl (by decide) hv7 ?_
        refine en_segs [(31, .sipush 9999, [])] (by decide +kernel) (y := (34, [some (.ref a0), some (.int p1), some (.int p2), some (.int p3), none], [.int 9999, .int v7], h)) rfl ?_
        refine en_ic_ne (by decide +kernel : u_at kl_245 34 = some (.if_icmp .ne 5, [39])) (fun b8 => ?_) (fun b8 => ?_)
        · replace hF := i_pos b8 hF
          refine en_segs [(37, .iconst (-1), [])] (by decide +kernel) (y := (38, [some (.ref a0), some (.int p1), some (.int p2), some (.int p3), none], [.int (-1)], h)) rfl ?_
          obtain rfl := Option.some.inj hF
          exact en_ret (by decide +kernel : u_at kl_245 38 = some (.ireturn, [0])) rfl (hQ _ hW)
        · replace hF := i_neg b8 hF
          refine en_segs [(39, .aload_n 0, [])] (by decide +kernel) (y := (40, [some (.ref a0), some (.int p1), some (.int p2), some (.int p3), none], [.ref a0], h)) rfl ?_
          obtain ⟨r9, hr9, hF⟩ := ob_some hF
          refine en_vv (r := []) (by decide +kernel : u_at kl_245 40 = some (.invokevirtual 397, [239, 0, 12])) hW ha0 rfl rfl (Nat.le_of_ble_eq_true rfl) (e_239 (D := D) (by omega) hW ha0 hr9) (fun h hW => ?_)
          have hW : HW (mkw c0 c1 c2 c3 c4 c5 c6 c7 c8 c9 c10 c11 r9 c13) d h := hW
          refine en_segs [(43, .aload_n 0, []), (44, .iload_n 1, []), (45, .iconst 0, [])] (by decide +kernel) (y := (46, [some (.ref a0), some (.int p1), some (.int p2), some (.int p3), none], [.int 0, .int p1, .ref a0], h)) rfl ?_
          obtain ⟨r10, hr10, hF⟩ := ob_some hF
          refine en_vi (r := []) (by decide +kernel : u_at kl_245 46 = some (.invokevirtual 343, [223, 2, 12])) hW ha0 rfl rfl (Nat.le_of_ble_eq_true rfl) (e_223 (D := D) (by omega) hW ha0 hr10) (fun h' q => ?_)
          subst q
          refine en_segs [(49, .istore 4, []), (51, .aload_n 0, []), (52, .iload_n 1, []), (53, .iload_n 2, [])] (by decide +kernel) (y := (54, [some (.ref a0), some (.int p1), some (.int p2), some (.int p3), some (.int r10)], [.int p2, .int p1, .ref a0], h)) rfl ?_
          obtain ⟨r11, hr11, hF⟩ := ob_some hF
          refine en_vv (r := []) (by decide +kernel : u_at kl_245 54 = some (.invokevirtual 400, [244, 2, 12])) hW ha0 rfl rfl (Nat.le_of_ble_eq_true rfl) (e_244 (D := D) (by omega) hW ha0 hr11) (fun h hW => ?_)
          have hW : HW (mkw c0 c1 c2 c3 c4 c5 c6 c7 c8 c9 c10 c11 r11 c13) d h := hW
          refine en_segs [(57, .aload_n 0, [])] (by decide +kernel) (y := (58, [some (.ref a0), some (.int p1), some (.int p2), some (.int p3), some (.int r10)], [.ref a0], h)) rfl ?_
          obtain ⟨r12, hr12, hF⟩ := ob_some hF
          refine en_vv (r := []) (by decide +kernel : u_at kl_245 58 = some (.invokevirtual 403, [242, 0, 12])) hW ha0 rfl rfl (Nat.le_of_ble_eq_true rfl) (e_242 (D := D) (by omega) hW ha0 hr12) (fun h hW => ?_)
          have hW : HW (mkw c0 c1 c2 c3 c4 c5 c6 c7 c8 c9 c10 c11 r12 c13) d h := hW
          refine en_segs [(61, .iload_n 3, [])] (by decide +kernel) (y := (62, [some (.ref a0), some (.int p1), some (.int p2), some (.int p3), some (.int r10)], [.int p3], h)) rfl ?_
          obtain ⟨t13, hX, hK⟩ := ob_some hF
          have j14 : ∀ h : UH, HW (mkw c0 c1 c2 c3 c4 c5 c6 c7 c8 c9 c10 c11 t13 c13) d h → Ends (EX D) (u_at kl_245) (77, [some (.ref a0), some (.int p1), some (.int p2), some (.int p3), some (.int r10)], [], h) QQ := by
            intro h hW
            have hF := hK
            refine en_segs [(77, .aload_n 0, [])] (by decide +kernel) (y := (78, [some (.ref a0), some (.int p1), some (.int p2), some (.int p3), some (.int r10)], [.ref a0], h)) rfl ?_
            obtain ⟨r15, hr15, hF⟩ := ob_some hF
            refine en_vv (r := []) (by decide +kernel : u_at kl_245 78 = some (.invokevirtual 325, [227, 0, 12])) hW ha0 rfl rfl (Nat.le_of_ble_eq_true rfl) (e_227 (D := D) (by omega) hW ha0 hr15) (fun h hW => ?_)
            have hW : HW (mkw c0 c1 c2 c3 c4 c5 c6 c7 c8 c9 c10 c11 r15 c13) d h := hW
            refine en_segs [(81, .aload_n 0, [])] (by decide +kernel) (y := (82, [some (.ref a0), some (.int p1), some (.int p2), some (.int p3), some (.int r10)], [.ref a0], h)) rfl ?_
            refine en_get (by decide +kernel : u_at kl_245 82 = some (.getfield 39, [12, 20])) hW ha0 (by decide) rfl ?_
            refine en_segs [(85, .iconst 4, [])] (by decide +kernel) (y := (86, [some (.ref a0), some (.int p1), some (.int p2), some (.int p3), some (.int r10)], [.int 4, .ref (aP d 12 20 a0)], h)) rfl ?_
            obtain ⟨v16, hv16, hF⟩ := ob_some hF
            refine en_iald (by decide +kernel : u_at kl_245 86 = some (.iaload, [])) hW ha0 rfl (by decide) hv16 ?_
            obtain rfl := Option.some.inj hF
            exact en_ret (by decide +kernel : u_at kl_245 87 = some (.ireturn, [0])) rfl (hQ _ hW)
          have hF := hX
          refine en_if_eq (by decide +kernel : u_at kl_245 62 = some (.ifCond .eq 15, [77])) (fun b17 => ?_) (fun b17 => ?_)
          · replace hF := i_pos b17 hF
            obtain rfl := Option.some.inj hF
            exact j14 _ hW
          · replace hF := i_neg b17 hF
            refine en_segs [(65, .aload_n 0, []), (66, .iload 4, []), (68, .aload_n 0, []), (69, .iload_n 1, []), (70, .iconst 1, [])] (by decide +kernel) (y := (71, [some (.ref a0), some (.int p1), some (.int p2), some (.int p3), some (.int r10)], [.int 1, .int p1, .ref a0, .int r10, .ref a0], h)) rfl ?_
            obtain ⟨r18, hr18, hF⟩ := ob_some hF
            refine en_vi (r := [.int r10, .ref a0]) (by decide +kernel : u_at kl_245 71 = some (.invokevirtual 343, [223, 2, 12])) hW ha0 rfl rfl (Nat.le_of_ble_eq_true rfl) (e_223 (D := D) (by omega) hW ha0 hr18) (fun h' q => ?_)
            subst q
            obtain ⟨r19, hr19, hF⟩ := ob_some hF
            refine en_vv (r := []) (by decide +kernel : u_at kl_245 74 = some (.invokevirtual 406, [243, 2, 12])) hW ha0 rfl rfl (Nat.le_of_ble_eq_true rfl) (e_243 (D := D) (by omega) hW ha0 hr19) (fun h hW => ?_)
            have hW : HW (mkw c0 c1 c2 c3 c4 c5 c6 c7 c8 c9 c10 c11 r19 c13) d h := hW
            obtain rfl := Option.some.inj hF
            exact j14 _ hW
def F_246 (c12 : Cl) (a0 : Nat) : Option (Int32 × Cl) :=
  F_218 c12 a0 >>= fun r1 =>
  if r1 = 0 then
  some ((-1), c12)
  else
  ald (cA c12 20 a0) 221 4 >>= fun v3 =>
  if v3 = 9999 then
  some ((-1), c12)
  else
  F_239 c12 a0 >>= fun r5 =>
  F_242 r5 a0 >>= fun r6 =>
  F_227 r6 a0 >>= fun r7 =>
  ald (cA r7 20 a0) 221 4 >>= fun v8 =>
  some (v8, r7)
set_option maxRecDepth 100000 in
set_option maxHeartbeats 4000000 in
/-- HeadCountsModel.rest -/
theorem e_246 {D : Nat} {c0 c1 c2 c3 c4 c5 c6 c7 c8 c9 c10 c11 c12 c13 : Cl} {d : Ad} {h : UH} {a0 : Nat} {r : (Int32 × Cl)} (hD : 6 ≤ D) (hW : HW (mkw c0 c1 c2 c3 c4 c5 c6 c7 c8 c9 c10 c11 c12 c13) d h) (ha0 : aK d a0 = (0, 12, 0)) (hF : F_246 c12 a0 = some r) : ∃ q, EX D 246 [.ref a0] h q ∧ q.1 = some (.int r.1) ∧ HW (mkw c0 c1 c2 c3 c4 c5 c6 c7 c8 c9 c10 c11 r.2 c13) d q.2 := by
  obtain ⟨D, rfl⟩ : ∃ E, D = E + 1 := ⟨D - 1, by omega⟩
  unfold F_246 at hF
  refine ex_in (kl := kl_246) (nL := 1) rfl (by decide +kernel) (Nat.le_of_ble_eq_true rfl) ?_
  obtain ⟨QQ, hQQ⟩ : ∃ QQ : UR → Prop, QQ = (fun q : UR => q.1 = some (.int r.1) ∧ HW (mkw c0 c1 c2 c3 c4 c5 c6 c7 c8 c9 c10 c11 r.2 c13) d q.2) := ⟨_, rfl⟩
  rw [← hQQ]
  have hQ : ∀ h' : UH, HW (mkw c0 c1 c2 c3 c4 c5 c6 c7 c8 c9 c10 c11 r.2 c13) d h' → QQ (some (.int r.1), h') := fun h' p => by rw [hQQ]; exact ⟨rfl, p⟩
  clear hQQ
  show Ends (EX D) (u_at kl_246) (0, [some (.ref a0)], [], h) QQ
  refine en_segs [(0, .aload_n 0, [])] (by decide +kernel) (y := (1, [some (.ref a0)], [.ref a0], h)) rfl ?_
  obtain ⟨r1, hr1, hF⟩ := ob_some hF
  refine en_vi (r := []) (by decide +kernel : u_at kl_246 1 = some (.invokevirtual 409, [218, 0, 12])) hW ha0 rfl rfl (Nat.le_of_ble_eq_true rfl) (e_218 (D := D) (by omega) hW ha0 hr1) (fun h' q => ?_)
  subst q
  refine en_if_eq (by decide +kernel : u_at kl_246 4 = some (.ifCond .eq 15, [19])) (fun b2 => ?_) (fun b2 => ?_)
  · replace hF := i_pos b2 hF
    refine en_segs [(19, .iconst (-1), [])] (by decide +kernel) (y := (20, [some (.ref a0)], [.int (-1)], h)) rfl ?_
    obtain rfl := Option.some.inj hF
    exact en_ret (by decide +kernel : u_at kl_246 20 = some (.ireturn, [0])) rfl (hQ _ hW)
  · replace hF := i_neg b2 hF
    refine en_segs [(7, .aload_n 0, [])] (by decide +kernel) (y := (8, [some (.ref a0)], [.ref a0], h)) rfl ?_
    refine en_get (by decide +kernel : u_at kl_246 8 = some (.getfield 39, [12, 20])) hW ha0 (by decide) rfl ?_
    refine en_segs [(11, .iconst 4, [])] (by decide +kernel) (y := (12, [some (.ref a0)], [.int 4, .ref (aP d 12 20 a0)], h)) rfl ?_
    obtain ⟨v3, hv3, hF⟩ := ob_some hF
    refine en_iald (by decide +kernel : u_at kl_246 12 = some (.iaload, [])) hW ha0 rfl (by decide) hv3 ?_
    refine en_segs [(13, .sipush 9999, [])] (by decide +kernel) (y := (16, [some (.ref a0)], [.int 9999, .int v3], h)) rfl ?_
    refine en_ic_ne (by decide +kernel : u_at kl_246 16 = some (.if_icmp .ne 5, [21])) (fun b4 => ?_) (fun b4 => ?_)
    · replace hF := i_pos b4 hF
      refine en_segs [(19, .iconst (-1), [])] (by decide +kernel) (y := (20, [some (.ref a0)], [.int (-1)], h)) rfl ?_
      obtain rfl := Option.some.inj hF
      exact en_ret (by decide +kernel : u_at kl_246 20 = some (.ireturn, [0])) rfl (hQ _ hW)
    · replace hF := i_neg b4 hF
      refine en_segs [(21, .aload_n 0, [])] (by decide +kernel) (y := (22, [some (.ref a0)], [.ref a0], h)) rfl ?_
      obtain ⟨r5, hr5, hF⟩ := ob_some hF
      refine en_vv (r := []) (by decide +kernel : u_at kl_246 22 = some (.invokevirtual 397, [239, 0, 12])) hW ha0 rfl rfl (Nat.le_of_ble_eq_true rfl) (e_239 (D := D) (by omega) hW ha0 hr5) (fun h hW => ?_)
      have hW : HW (mkw c0 c1 c2 c3 c4 c5 c6 c7 c8 c9 c10 c11 r5 c13) d h := hW
      refine en_segs [(25, .aload_n 0, [])] (by decide +kernel) (y := (26, [some (.ref a0)], [.ref a0], h)) rfl ?_
      obtain ⟨r6, hr6, hF⟩ := ob_some hF
      refine en_vv (r := []) (by decide +kernel : u_at kl_246 26 = some (.invokevirtual 403, [242, 0, 12])) hW ha0 rfl rfl (Nat.le_of_ble_eq_true rfl) (e_242 (D := D) (by omega) hW ha0 hr6) (fun h hW => ?_)
      have hW : HW (mkw c0 c1 c2 c3 c4 c5 c6 c7 c8 c9 c10 c11 r6 c13) d h := hW
      refine en_segs [(29, .aload_n 0, [])] (by decide +kernel) (y := (30, [some (.ref a0)], [.ref a0], h)) rfl ?_
      obtain ⟨r7, hr7, hF⟩ := ob_some hF
      refine en_vv (r := []) (by decide +kernel : u_at kl_246 30 = some (.invokevirtual 325, [227, 0, 12])) hW ha0 rfl rfl (Nat.le_of_ble_eq_true rfl) (e_227 (D := D) (by omega) hW ha0 hr7) (fun h hW => ?_)
      have hW : HW (mkw c0 c1 c2 c3 c4 c5 c6 c7 c8 c9 c10 c11 r7 c13) d h := hW
      refine en_segs [(33, .aload_n 0, [])] (by decide +kernel) (y := (34, [some (.ref a0)], [.ref a0], h)) rfl ?_
      refine en_get (by decide +kernel : u_at kl_246 34 = some (.getfield 39, [12, 20])) hW ha0 (by decide) rfl ?_
      refine en_segs [(37, .iconst 4, [])] (by decide +kernel) (y := (38, [some (.ref a0)], [.int 4, .ref (aP d 12 20 a0)], h)) rfl ?_
      obtain ⟨v8, hv8, hF⟩ := ob_some hF
      refine en_iald (by decide +kernel : u_at kl_246 38 = some (.iaload, [])) hW ha0 rfl (by decide) hv8 ?_
      obtain rfl := Option.some.inj hF
      exact en_ret (by decide +kernel : u_at kl_246 39 = some (.ireturn, [0])) rfl (hQ _ hW)
def F_247 (c12 : Cl) (a0 : Nat) (p1 : Int32) : Option (Int32 × Cl) :=
  F_221 c12 a0 p1 >>= fun r1 =>
  if r1 = 0 then
  some (0, c12)
  else
  F_224 c12 a0 p1 >>= fun r3 =>
  if r3 = 0 then
  some (0, c12)
  else
  ald (cA c12 20 a0) 221 4 >>= fun v5 =>
  ald (cA c12 20 a0) 221 7 >>= fun v6 =>
  ast c12 20 a0 221 ((40 + (6 * p1)) + 5) (v5 + v6) >>= fun c12_7 =>
  some (1, c12_7)
set_option maxRecDepth 100000 in
set_option maxHeartbeats 4000000 in
/-- HeadCountsModel.die -/
theorem e_247 {D : Nat} {c0 c1 c2 c3 c4 c5 c6 c7 c8 c9 c10 c11 c12 c13 : Cl} {d : Ad} {h : UH} {a0 : Nat} {p1 : Int32} {r : (Int32 × Cl)} (hD : 3 ≤ D) (hW : HW (mkw c0 c1 c2 c3 c4 c5 c6 c7 c8 c9 c10 c11 c12 c13) d h) (ha0 : aK d a0 = (0, 12, 0)) (hF : F_247 c12 a0 p1 = some r) : ∃ q, EX D 247 [.ref a0, .int p1] h q ∧ q.1 = some (.int r.1) ∧ HW (mkw c0 c1 c2 c3 c4 c5 c6 c7 c8 c9 c10 c11 r.2 c13) d q.2 := by
  obtain ⟨D, rfl⟩ : ∃ E, D = E + 1 := ⟨D - 1, by omega⟩
  unfold F_247 at hF
  refine ex_in (kl := kl_247) (nL := 2) rfl (by decide +kernel) (Nat.le_of_ble_eq_true rfl) ?_
  obtain ⟨QQ, hQQ⟩ : ∃ QQ : UR → Prop, QQ = (fun q : UR => q.1 = some (.int r.1) ∧ HW (mkw c0 c1 c2 c3 c4 c5 c6 c7 c8 c9 c10 c11 r.2 c13) d q.2) := ⟨_, rfl⟩
  rw [← hQQ]
  have hQ : ∀ h' : UH, HW (mkw c0 c1 c2 c3 c4 c5 c6 c7 c8 c9 c10 c11 r.2 c13) d h' → QQ (some (.int r.1), h') := fun h' p => by rw [hQQ]; exact ⟨rfl, p⟩
  clear hQQ
  show Ends (EX D) (u_at kl_247) (0, [some (.ref a0), some (.int p1)], [], h) QQ
  refine en_segs [(0, .aload_n 0, []), (1, .iload_n 1, [])] (by decide +kernel) (y := (2, [some (.ref a0), some (.int p1)], [.int p1, .ref a0], h)) rfl ?_
  obtain ⟨r1, hr1, hF⟩ := ob_some hF
  refine en_vi (r := []) (by decide +kernel : u_at kl_247 2 = some (.invokevirtual 367, [221, 1, 12])) hW ha0 rfl rfl (Nat.le_of_ble_eq_true rfl) (e_221 (D := D) (by omega) hW ha0 hr1) (fun h' q => ?_)
  subst q
  refine en_if_eq (by decide +kernel : u_at kl_247 5 = some (.ifCond .eq 11, [16])) (fun b2 => ?_) (fun b2 => ?_)
  · replace hF := i_pos b2 hF
    refine en_segs [(16, .iconst 0, [])] (by decide +kernel) (y := (17, [some (.ref a0), some (.int p1)], [.int 0], h)) rfl ?_
    obtain rfl := Option.some.inj hF
    exact en_ret (by decide +kernel : u_at kl_247 17 = some (.ireturn, [1])) rfl (hQ _ hW)
  · replace hF := i_neg b2 hF
    refine en_segs [(8, .aload_n 0, []), (9, .iload_n 1, [])] (by decide +kernel) (y := (10, [some (.ref a0), some (.int p1)], [.int p1, .ref a0], h)) rfl ?_
    obtain ⟨r3, hr3, hF⟩ := ob_some hF
    refine en_vi (r := []) (by decide +kernel : u_at kl_247 10 = some (.invokevirtual 346, [224, 1, 12])) hW ha0 rfl rfl (Nat.le_of_ble_eq_true rfl) (e_224 (D := D) (by omega) hW ha0 hr3) (fun h' q => ?_)
    subst q
    refine en_if_ne (by decide +kernel : u_at kl_247 13 = some (.ifCond .ne 5, [18])) (fun b4 => ?_) (fun b4 => ?_)
    · replace hF := i_pos b4 hF
      refine en_segs [(16, .iconst 0, [])] (by decide +kernel) (y := (17, [some (.ref a0), some (.int p1)], [.int 0], h)) rfl ?_
      obtain rfl := Option.some.inj hF
      exact en_ret (by decide +kernel : u_at kl_247 17 = some (.ireturn, [1])) rfl (hQ _ hW)
    · replace hF := i_neg b4 hF
      refine en_segs [(18, .aload_n 0, [])] (by decide +kernel) (y := (19, [some (.ref a0), some (.int p1)], [.ref a0], h)) rfl ?_
      refine en_get (by decide +kernel : u_at kl_247 19 = some (.getfield 39, [12, 20])) hW ha0 (by decide) rfl ?_
      refine en_segs [(22, .bipush 40, []), (24, .bipush 6, []), (26, .iload_n 1, []), (27, .imul, []), (28, .iadd, []), (29, .iconst 5, []), (30, .iadd, []), (31, .aload_n 0, [])] (by decide +kernel) (y := (32, [some (.ref a0), some (.int p1)], [.ref a0, .int ((40 + (6 * p1)) + 5), .ref (aP d 12 20 a0)], h)) rfl ?_
      refine en_get (by decide +kernel : u_at kl_247 32 = some (.getfield 39, [12, 20])) hW ha0 (by decide) rfl ?_
      refine en_segs [(35, .iconst 4, [])] (by decide +kernel) (y := (36, [some (.ref a0), some (.int p1)], [.int 4, .ref (aP d 12 20 a0), .int ((40 + (6 * p1)) + 5), .ref (aP d 12 20 a0)], h)) rfl ?_
      obtain ⟨v5, hv5, hF⟩ := ob_some hF
      refine en_iald (by decide +kernel : u_at kl_247 36 = some (.iaload, [])) hW ha0 rfl (by decide) hv5 ?_
      refine en_segs [(37, .aload_n 0, [])] (by decide +kernel) (y := (38, [some (.ref a0), some (.int p1)], [.ref a0, .int v5, .int ((40 + (6 * p1)) + 5), .ref (aP d 12 20 a0)], h)) rfl ?_
      refine en_get (by decide +kernel : u_at kl_247 38 = some (.getfield 39, [12, 20])) hW ha0 (by decide) rfl ?_
      refine en_segs [(41, .bipush 7, [])] (by decide +kernel) (y := (43, [some (.ref a0), some (.int p1)], [.int 7, .ref (aP d 12 20 a0), .int v5, .int ((40 + (6 * p1)) + 5), .ref (aP d 12 20 a0)], h)) rfl ?_
      obtain ⟨v6, hv6, hF⟩ := ob_some hF
      refine en_iald (by decide +kernel : u_at kl_247 43 = some (.iaload, [])) hW ha0 rfl (by decide) hv6 ?_
      refine en_segs [(44, .iadd, [])] (by decide +kernel) (y := (45, [some (.ref a0), some (.int p1)], [.int (v5 + v6), .int ((40 + (6 * p1)) + 5), .ref (aP d 12 20 a0)], h)) rfl ?_
      obtain ⟨c12_7, hc12_7, hF⟩ := ob_some hF
      refine en_iast (by decide +kernel : u_at kl_247 45 = some (.iastore, [])) hW ha0 rfl (by decide) hc12_7 (fun h hW => ?_)
      have hW : HW (mkw c0 c1 c2 c3 c4 c5 c6 c7 c8 c9 c10 c11 c12_7 c13) d h := hW
      refine en_segs [(46, .iconst 1, [])] (by decide +kernel) (y := (47, [some (.ref a0), some (.int p1)], [.int 1], h)) rfl ?_
      obtain rfl := Option.some.inj hF
      exact en_ret (by decide +kernel : u_at kl_247 47 = some (.ireturn, [1])) rfl (hQ _ hW)
def F_248 (c12 : Cl) (a0 : Nat) (p1 : Int32) (p2 : Int32) : Option (Int32 × Cl) :=
  F_220 c12 a0 p1 >>= fun r1 =>
  if r1 = 0 then
  some (0, c12)
  else
  ald (cA c12 20 a0) 221 ((10 + (3 * p1)) + 2) >>= fun v3 =>
  ((if v3 = 1 then
  some 1
  else
  some 0) : Option (Int32)) >>= fun (t4 : Int32) =>
  if t4 = p2 then
  some (0, c12)
  else
  ((if p2 = 0 then
  some 0
  else
  some 1) : Option (Int32)) >>= fun (t7 : Int32) =>
  ast c12 20 a0 221 ((10 + (3 * p1)) + 2) t7 >>= fun c12_9 =>
  some (1, c12_9)
set_option maxRecDepth 100000 in
set_option maxHeartbeats 4000000 in
/-- HeadCountsModel.open -/
theorem e_248 {D : Nat} {c0 c1 c2 c3 c4 c5 c6 c7 c8 c9 c10 c11 c12 c13 : Cl} {d : Ad} {h : UH} {a0 : Nat} {p1 : Int32} {p2 : Int32} {r : (Int32 × Cl)} (hD : 2 ≤ D) (hW : HW (mkw c0 c1 c2 c3 c4 c5 c6 c7 c8 c9 c10 c11 c12 c13) d h) (ha0 : aK d a0 = (0, 12, 0)) (hF : F_248 c12 a0 p1 p2 = some r) : ∃ q, EX D 248 [.ref a0, .int p1, .int p2] h q ∧ q.1 = some (.int r.1) ∧ HW (mkw c0 c1 c2 c3 c4 c5 c6 c7 c8 c9 c10 c11 r.2 c13) d q.2 := by
  obtain ⟨D, rfl⟩ : ∃ E, D = E + 1 := ⟨D - 1, by omega⟩
  unfold F_248 at hF
  refine ex_in (kl := kl_248) (nL := 3) rfl (by decide +kernel) (Nat.le_of_ble_eq_true rfl) ?_
  obtain ⟨QQ, hQQ⟩ : ∃ QQ : UR → Prop, QQ = (fun q : UR => q.1 = some (.int r.1) ∧ HW (mkw c0 c1 c2 c3 c4 c5 c6 c7 c8 c9 c10 c11 r.2 c13) d q.2) := ⟨_, rfl⟩
  rw [← hQQ]
  have hQ : ∀ h' : UH, HW (mkw c0 c1 c2 c3 c4 c5 c6 c7 c8 c9 c10 c11 r.2 c13) d h' → QQ (some (.int r.1), h') := fun h' p => by rw [hQQ]; exact ⟨rfl, p⟩
  clear hQQ
  show Ends (EX D) (u_at kl_248) (0, [some (.ref a0), some (.int p1), some (.int p2)], [], h) QQ
  refine en_segs [(0, .aload_n 0, []), (1, .iload_n 1, [])] (by decide +kernel) (y := (2, [some (.ref a0), some (.int p1), some (.int p2)], [.int p1, .ref a0], h)) rfl ?_
  obtain ⟨r1, hr1, hF⟩ := ob_some hF
  refine en_vi (r := []) (by decide +kernel : u_at kl_248 2 = some (.invokevirtual 381, [220, 1, 12])) hW ha0 rfl rfl (Nat.le_of_ble_eq_true rfl) (e_220 (D := D) (by omega) hW ha0 hr1) (fun h' q => ?_)
  subst q
  refine en_if_eq (by decide +kernel : u_at kl_248 5 = some (.ifCond .eq 29, [34])) (fun b2 => ?_) (fun b2 => ?_)
  · replace hF := i_pos b2 hF
    refine en_segs [(34, .iconst 0, [])] (by decide +kernel) (y := (35, [some (.ref a0), some (.int p1), some (.int p2)], [.int 0], h)) rfl ?_
    obtain rfl := Option.some.inj hF
    exact en_ret (by decide +kernel : u_at kl_248 35 = some (.ireturn, [1])) rfl (hQ _ hW)
  · replace hF := i_neg b2 hF
    refine en_segs [(8, .aload_n 0, [])] (by decide +kernel) (y := (9, [some (.ref a0), some (.int p1), some (.int p2)], [.ref a0], h)) rfl ?_
    refine en_get (by decide +kernel : u_at kl_248 9 = some (.getfield 39, [12, 20])) hW ha0 (by decide) rfl ?_
    refine en_segs [(12, .bipush 10, []), (14, .iconst 3, []), (15, .iload_n 1, []), (16, .imul, []), (17, .iadd, []), (18, .iconst 2, []), (19, .iadd, [])] (by decide +kernel) (y := (20, [some (.ref a0), some (.int p1), some (.int p2)], [.int ((10 + (3 * p1)) + 2), .ref (aP d 12 20 a0)], h)) rfl ?_
    obtain ⟨v3, hv3, hF⟩ := ob_some hF
    refine en_iald (by decide +kernel : u_at kl_248 20 = some (.iaload, [])) hW ha0 rfl (by decide) hv3 ?_
    refine en_segs [(21, .iconst 1, [])] (by decide +kernel) (y := (22, [some (.ref a0), some (.int p1), some (.int p2)], [.int 1, .int v3], h)) rfl ?_
    obtain ⟨t4, hX, hK⟩ := ob_some hF
    have j5 : ∀ h : UH, HW (mkw c0 c1 c2 c3 c4 c5 c6 c7 c8 c9 c10 c11 c12 c13) d h → Ends (EX D) (u_at kl_248) (30, [some (.ref a0), some (.int p1), some (.int p2)], [.int t4], h) QQ := by
      intro h hW
      have hF := hK
      refine en_segs [(30, .iload_n 2, [])] (by decide +kernel) (y := (31, [some (.ref a0), some (.int p1), some (.int p2)], [.int p2, .int t4], h)) rfl ?_
      refine en_ic_ne (by decide +kernel : u_at kl_248 31 = some (.if_icmp .ne 5, [36])) (fun b6 => ?_) (fun b6 => ?_)
      · replace hF := i_pos b6 hF
        refine en_segs [(34, .iconst 0, [])] (by decide +kernel) (y := (35, [some (.ref a0), some (.int p1), some (.int p2)], [.int 0], h)) rfl ?_
        obtain rfl := Option.some.inj hF
        exact en_ret (by decide +kernel : u_at kl_248 35 = some (.ireturn, [1])) rfl (hQ _ hW)
      · replace hF := i_neg b6 hF
        refine en_segs [(36, .aload_n 0, [])] (by decide +kernel) (y := (37, [some (.ref a0), some (.int p1), some (.int p2)], [.ref a0], h)) rfl ?_
        refine en_get (by decide +kernel : u_at kl_248 37 = some (.getfield 39, [12, 20])) hW ha0 (by decide) rfl ?_
        refine en_segs [(40, .bipush 10, []), (42, .iconst 3, []), (43, .iload_n 1, []), (44, .imul, []), (45, .iadd, []), (46, .iconst 2, []), (47, .iadd, []), (48, .iload_n 2, [])] (by decide +kernel) (y := (49, [some (.ref a0), some (.int p1), some (.int p2)], [.int p2, .int ((10 + (3 * p1)) + 2), .ref (aP d 12 20 a0)], h)) rfl ?_
        obtain ⟨t7, hX, hK⟩ := ob_some hF
        have j8 : ∀ h : UH, HW (mkw c0 c1 c2 c3 c4 c5 c6 c7 c8 c9 c10 c11 c12 c13) d h → Ends (EX D) (u_at kl_248) (57, [some (.ref a0), some (.int p1), some (.int p2)], [.int t7, .int ((10 + (3 * p1)) + 2), .ref (aP d 12 20 a0)], h) QQ := by
          intro h hW
          have hF := hK
          obtain ⟨c12_9, hc12_9, hF⟩ := ob_some hF
          refine en_iast (by decide +kernel : u_at kl_248 57 = some (.iastore, [])) hW ha0 rfl (by decide) hc12_9 (fun h hW => ?_)
          have hW : HW (mkw c0 c1 c2 c3 c4 c5 c6 c7 c8 c9 c10 c11 c12_9 c13) d h := hW
          refine en_segs [(58, .iconst 1, [])] (by decide +kernel) (y := (59, [some (.ref a0), some (.int p1), some (.int p2)], [.int 1], h)) rfl ?_
          obtain rfl := Option.some.inj hF
          exact en_ret (by decide +kernel : u_at kl_248 59 = some (.ireturn, [1])) rfl (hQ _ hW)
        have hF := hX
        refine en_if_eq (by decide +kernel : u_at kl_248 49 = some (.ifCond .eq 7, [56])) (fun b10 => ?_) (fun b10 => ?_)
        · replace hF := i_pos b10 hF
          refine en_segs [(56, .iconst 0, [])] (by decide +kernel) (y := (57, [some (.ref a0), some (.int p1), some (.int p2)], [.int 0, .int ((10 + (3 * p1)) + 2), .ref (aP d 12 20 a0)], h)) rfl ?_
          obtain rfl := Option.some.inj hF
          exact j8 _ hW
        · replace hF := i_neg b10 hF
          refine en_segs [(52, .iconst 1, []), (53, .goto 4, [57])] (by decide +kernel) (y := (57, [some (.ref a0), some (.int p1), some (.int p2)], [.int 1, .int ((10 + (3 * p1)) + 2), .ref (aP d 12 20 a0)], h)) rfl ?_
          obtain rfl := Option.some.inj hF
          exact j8 _ hW
    have hF := hX
    refine en_ic_ne (by decide +kernel : u_at kl_248 22 = some (.if_icmp .ne 7, [29])) (fun b11 => ?_) (fun b11 => ?_)
    · replace hF := i_pos b11 hF
      refine en_segs [(25, .iconst 1, []), (26, .goto 4, [30])] (by decide +kernel) (y := (30, [some (.ref a0), some (.int p1), some (.int p2)], [.int 1], h)) rfl ?_
      obtain rfl := Option.some.inj hF
      exact j5 _ hW
    · replace hF := i_neg b11 hF
      refine en_segs [(29, .iconst 0, [])] (by decide +kernel) (y := (30, [some (.ref a0), some (.int p1), some (.int p2)], [.int 0], h)) rfl ?_
      obtain rfl := Option.some.inj hF
      exact j5 _ hW
def G_249 (c12 : Cl) (a0 : Nat) (lab : Nat) (xs : List Int32) (ys : List Int64) (zs : List Nat) : Option Cl := match lab, xs, ys, zs with
  | 0, [x1, x2, x3, x4], [], [] =>
    ald (cA c12 20 a0) 221 0 >>= fun v1 =>
    if v1 ≤ x4 then
    stl c12 19 a0 12 0 ((x1 : Int32).toInt64) >>= fun c12_3 =>
    F_223 c12_3 a0 x1 1 >>= fun r4 =>
    stl c12_3 19 a0 12 1 ((r4 : Int32).toInt64) >>= fun c12_5 =>
    F_223 c12_5 a0 x1 0 >>= fun r6 =>
    stl c12_5 19 a0 12 2 ((r6 : Int32).toInt64) >>= fun c12_7 =>
    F_223 c12_7 a0 x1 2 >>= fun r8 =>
    stl c12_7 19 a0 12 3 ((r8 : Int32).toInt64) >>= fun c12_9 =>
    F_223 c12_9 a0 x1 3 >>= fun r10 =>
    ((if 0 ≤ r10 then
    F_223 c12_9 a0 x1 3 >>= fun r40 =>
    some ((r40 : Int32).toInt64)
    else
    some 99) : Option (Int64)) >>= fun (t11 : Int64) =>
    stl c12_9 19 a0 12 4 t11 >>= fun c12_13 =>
    F_223 c12_13 a0 x1 0 >>= fun r14 =>
    F_230 c12_13 a0 r14 >>= fun r15 =>
    stl c12_13 19 a0 12 5 ((r15 : Int32).toInt64) >>= fun c12_16 =>
    ((if 0 ≤ x2 then
    some ((x2 : Int32).toInt64)
    else
    some 99) : Option (Int64)) >>= fun (t17 : Int64) =>
    stl c12_16 19 a0 12 6 t17 >>= fun c12_19 =>
    ((if 0 ≤ x3 then
    some ((x3 : Int32).toInt64)
    else
    some 99) : Option (Int64)) >>= fun (t20 : Int64) =>
    stl c12_19 19 a0 12 7 t20 >>= fun c12_22 =>
    ((if 0 ≤ x2 then
    F_230 c12_22 a0 x2 >>= fun r36 =>
    some ((r36 : Int32).toInt64)
    else
    some 0) : Option (Int64)) >>= fun (t23 : Int64) =>
    stl c12_22 19 a0 12 8 t23 >>= fun c12_25 =>
    ((if 0 ≤ x3 then
    F_230 c12_25 a0 x3 >>= fun r34 =>
    some ((r34 : Int32).toInt64)
    else
    some 0) : Option (Int64)) >>= fun (t26 : Int64) =>
    stl c12_25 19 a0 12 9 t26 >>= fun c12_28 =>
    F_223 c12_28 a0 x1 4 >>= fun r29 =>
    stl c12_28 19 a0 12 10 ((r29 : Int32).toInt64) >>= fun c12_30 =>
    ald (cA c12_30 20 a0) 221 4 >>= fun v31 =>
    stl c12_30 19 a0 12 11 ((v31 : Int32).toInt64) >>= fun c12_32 =>
    some c12_32
    else
    F_241 c12 a0 x1 x4 >>= fun r41 =>
    if r41 = 0 then
    G_249 c12 a0 0 [x1, x2, x3, x4 + 1] [] []
    else
    ((if x2 < 0 then
    some x4
    else
    F_230 c12 a0 x4 >>= fun r52 =>
    F_230 c12 a0 x2 >>= fun r53 =>
    if r53 ≤ r52 then
    some x2
    else
    some x4) : Option (Int32)) >>= fun (t43 : Int32) =>
    ((if x3 < 0 then
    some x4
    else
    F_230 c12 a0 x4 >>= fun r48 =>
    F_230 c12 a0 x3 >>= fun r49 =>
    if r48 ≤ r49 then
    some x3
    else
    some x4) : Option (Int32)) >>= fun (t45 : Int32) =>
    G_249 c12 a0 0 [x1, t43, t45, x4 + 1] [] []
  | _, _, _, _ => none
partial_fixpoint
set_option maxRecDepth 100000 in
set_option maxHeartbeats 4000000 in
theorem g_249 {D : Nat} (hD : 7 ≤ D + 1) {c0 c1 c2 c3 c4 c5 c6 c7 c8 c9 c10 c11 c12 c13 : Cl} {d : Ad} {a0 : Nat} (ha0 : aK d a0 = (0, 12, 0)) : ∀ (lab : Nat) (xs : List Int32) (ys : List Int64) (zs : List Nat) (r : Cl), G_249 c12 a0 lab xs ys zs = some r →
    (∀ (x1 : Int32) (x2 : Int32) (x3 : Int32) (x4 : Int32), lab = 0 → xs = [x1, x2, x3, x4] → ys = [] → zs = [] → ∀ h : UH, HW (mkw c0 c1 c2 c3 c4 c5 c6 c7 c8 c9 c10 c11 c12 c13) d h → ∀ QQ : UR → Prop, (∀ h' : UH, HW (mkw c0 c1 c2 c3 c4 c5 c6 c7 c8 c9 c10 c11 r c13) d h' → QQ (none, h')) → Ends (EX D) (u_at kl_249) (7, [some (.ref a0), some (.int x1), some (.int x2), some (.int x3), some (.int x4)], [], h) QQ) := by
  refine G_249.partial_correctness _ _ (motive := fun lab xs ys zs r =>
    (∀ (x1 : Int32) (x2 : Int32) (x3 : Int32) (x4 : Int32), lab = 0 → xs = [x1, x2, x3, x4] → ys = [] → zs = [] → ∀ h : UH, HW (mkw c0 c1 c2 c3 c4 c5 c6 c7 c8 c9 c10 c11 c12 c13) d h → ∀ QQ : UR → Prop, (∀ h' : UH, HW (mkw c0 c1 c2 c3 c4 c5 c6 c7 c8 c9 c10 c11 r c13) d h' → QQ (none, h')) → Ends (EX D) (u_at kl_249) (7, [some (.ref a0), some (.int x1), some (.int x2), some (.int x3), some (.int x4)], [], h) QQ)) ?_
  intro G ih lab xs ys zs r hF
  · intro x1 x2 x3 x4 e1 e2 e3 e4 h hW QQ hQ
    subst e1 e2 e3 e4
    refine en_segs [(7, .iload 4, []), (9, .aload_n 0, [])] (by decide +kernel) (y := (10, [some (.ref a0), some (.int x1), some (.int x2), some (.int x3), some (.int x4)], [.ref a0, .int x4], h)) rfl ?_
    refine en_get (by decide +kernel : u_at kl_249 10 = some (.getfield 39, [12, 20])) hW ha0 (by decide) rfl ?_
    refine en_segs [(13, .iconst 0, [])] (by decide +kernel) (y := (14, [some (.ref a0), some (.int x1), some (.int x2), some (.int x3), some (.int x4)], [.int 0, .ref (aP d 12 20 a0), .int x4], h)) rfl ?_
    obtain ⟨v1, hv1, hF⟩ := ob_some hF
    refine en_iald (by decide +kernel : u_at kl_249 14 = some (.iaload, [])) hW ha0 rfl (by decide) hv1 ?_
    refine en_ic_ge (by decide +kernel : u_at kl_249 15 = some (.if_icmp .ge 72, [87])) (fun b2 => ?_) (fun b2 => ?_)
    · replace hF := i_pos b2 hF
      refine en_segs [(87, .aload_n 0, [])] (by decide +kernel) (y := (88, [some (.ref a0), some (.int x1), some (.int x2), some (.int x3), some (.int x4)], [.ref a0], h)) rfl ?_
      refine en_get (by decide +kernel : u_at kl_249 88 = some (.getfield 36, [12, 19])) hW ha0 (by decide) rfl ?_
      refine en_segs [(91, .iconst 0, []), (92, .iload_n 1, []), (93, .i2l, [])] (by decide +kernel) (y := (94, [some (.ref a0), some (.int x1), some (.int x2), some (.int x3), some (.int x4)], [.long ((x1 : Int32).toInt64), .int 0, .ref (aP d 12 19 a0)], h)) rfl ?_
      obtain ⟨c12_3, hc12_3, hF⟩ := ob_some hF
      refine en_last (by decide +kernel : u_at kl_249 94 = some (.lastore, [])) hW ha0 rfl (by decide) hc12_3 (fun h hW => ?_)
      have hW : HW (mkw c0 c1 c2 c3 c4 c5 c6 c7 c8 c9 c10 c11 c12_3 c13) d h := hW
      refine en_segs [(95, .aload_n 0, [])] (by decide +kernel) (y := (96, [some (.ref a0), some (.int x1), some (.int x2), some (.int x3), some (.int x4)], [.ref a0], h)) rfl ?_
      refine en_get (by decide +kernel : u_at kl_249 96 = some (.getfield 36, [12, 19])) hW ha0 (by decide) rfl ?_
      refine en_segs [(99, .iconst 1, []), (100, .aload_n 0, []), (101, .iload_n 1, []), (102, .iconst 1, [])] (by decide +kernel) (y := (103, [some (.ref a0), some (.int x1), some (.int x2), some (.int x3), some (.int x4)], [.int 1, .int x1, .ref a0, .int 1, .ref (aP d 12 19 a0)], h)) rfl ?_
      obtain ⟨r4, hr4, hF⟩ := ob_some hF
      refine en_vi (r := [.int 1, .ref (aP d 12 19 a0)]) (by decide +kernel : u_at kl_249 103 = some (.invokevirtual 343, [223, 2, 12])) hW ha0 rfl rfl (Nat.le_of_ble_eq_true rfl) (e_223 (D := D) (by omega) hW ha0 hr4) (fun h' q => ?_)
      subst q
      refine en_segs [(106, .i2l, [])] (by decide +kernel) (y := (107, [some (.ref a0), some (.int x1), some (.int x2), some (.int x3), some (.int x4)], [.long ((r4 : Int32).toInt64), .int 1, .ref (aP d 12 19 a0)], h)) rfl ?_
      obtain ⟨c12_5, hc12_5, hF⟩ := ob_some hF
      refine en_last (by decide +kernel : u_at kl_249 107 = some (.lastore, [])) hW ha0 rfl (by decide) hc12_5 (fun h hW => ?_)
      have hW : HW (mkw c0 c1 c2 c3 c4 c5 c6 c7 c8 c9 c10 c11 c12_5 c13) d h := hW
      refine en_segs [(108, .aload_n 0, [])] (by decide +kernel) (y := (109, [some (.ref a0), some (.int x1), some (.int x2), some (.int x3), some (.int x4)], [.ref a0], h)) rfl ?_
      refine en_get (by decide +kernel : u_at kl_249 109 = some (.getfield 36, [12, 19])) hW ha0 (by decide) rfl ?_
      refine en_segs [(112, .iconst 2, []), (113, .aload_n 0, []), (114, .iload_n 1, []), (115, .iconst 0, [])] (by decide +kernel) (y := (116, [some (.ref a0), some (.int x1), some (.int x2), some (.int x3), some (.int x4)], [.int 0, .int x1, .ref a0, .int 2, .ref (aP d 12 19 a0)], h)) rfl ?_
      obtain ⟨r6, hr6, hF⟩ := ob_some hF
      refine en_vi (r := [.int 2, .ref (aP d 12 19 a0)]) (by decide +kernel : u_at kl_249 116 = some (.invokevirtual 343, [223, 2, 12])) hW ha0 rfl rfl (Nat.le_of_ble_eq_true rfl) (e_223 (D := D) (by omega) hW ha0 hr6) (fun h' q => ?_)
      subst q
      refine en_segs [(119, .i2l, [])] (by decide +kernel) (y := (120, [some (.ref a0), some (.int x1), some (.int x2), some (.int x3), some (.int x4)], [.long ((r6 : Int32).toInt64), .int 2, .ref (aP d 12 19 a0)], h)) rfl ?_
      obtain ⟨c12_7, hc12_7, hF⟩ := ob_some hF
      refine en_last (by decide +kernel : u_at kl_249 120 = some (.lastore, [])) hW ha0 rfl (by decide) hc12_7 (fun h hW => ?_)
      have hW : HW (mkw c0 c1 c2 c3 c4 c5 c6 c7 c8 c9 c10 c11 c12_7 c13) d h := hW
      refine en_segs [(121, .aload_n 0, [])] (by decide +kernel) (y := (122, [some (.ref a0), some (.int x1), some (.int x2), some (.int x3), some (.int x4)], [.ref a0], h)) rfl ?_
      refine en_get (by decide +kernel : u_at kl_249 122 = some (.getfield 36, [12, 19])) hW ha0 (by decide) rfl ?_
      refine en_segs [(125, .iconst 3, []), (126, .aload_n 0, []), (127, .iload_n 1, []), (128, .iconst 2, [])] (by decide +kernel) (y := (129, [some (.ref a0), some (.int x1), some (.int x2), some (.int x3), some (.int x4)], [.int 2, .int x1, .ref a0, .int 3, .ref (aP d 12 19 a0)], h)) rfl ?_
      obtain ⟨r8, hr8, hF⟩ := ob_some hF
      refine en_vi (r := [.int 3, .ref (aP d 12 19 a0)]) (by decide +kernel : u_at kl_249 129 = some (.invokevirtual 343, [223, 2, 12])) hW ha0 rfl rfl (Nat.le_of_ble_eq_true rfl) (e_223 (D := D) (by omega) hW ha0 hr8) (fun h' q => ?_)
      subst q
      refine en_segs [(132, .i2l, [])] (by decide +kernel) (y := (133, [some (.ref a0), some (.int x1), some (.int x2), some (.int x3), some (.int x4)], [.long ((r8 : Int32).toInt64), .int 3, .ref (aP d 12 19 a0)], h)) rfl ?_
      obtain ⟨c12_9, hc12_9, hF⟩ := ob_some hF
      refine en_last (by decide +kernel : u_at kl_249 133 = some (.lastore, [])) hW ha0 rfl (by decide) hc12_9 (fun h hW => ?_)
      have hW : HW (mkw c0 c1 c2 c3 c4 c5 c6 c7 c8 c9 c10 c11 c12_9 c13) d h := hW
      refine en_segs [(134, .aload_n 0, [])] (by decide +kernel) (y := (135, [some (.ref a0), some (.int x1), some (.int x2), some (.int x3), some (.int x4)], [.ref a0], h)) rfl ?_
      refine en_get (by decide +kernel : u_at kl_249 135 = some (.getfield 36, [12, 19])) hW ha0 (by decide) rfl ?_
      refine en_segs [(138, .iconst 4, []), (139, .aload_n 0, []), (140, .iload_n 1, []), (141, .iconst 3, [])] (by decide +kernel) (y := (142, [some (.ref a0), some (.int x1), some (.int x2), some (.int x3), some (.int x4)], [.int 3, .int x1, .ref a0, .int 4, .ref (aP d 12 19 a0)], h)) rfl ?_
      obtain ⟨r10, hr10, hF⟩ := ob_some hF
      refine en_vi (r := [.int 4, .ref (aP d 12 19 a0)]) (by decide +kernel : u_at kl_249 142 = some (.invokevirtual 343, [223, 2, 12])) hW ha0 rfl rfl (Nat.le_of_ble_eq_true rfl) (e_223 (D := D) (by omega) hW ha0 hr10) (fun h' q => ?_)
      subst q
      obtain ⟨t11, hX, hK⟩ := ob_some hF
      have j12 : ∀ h : UH, HW (mkw c0 c1 c2 c3 c4 c5 c6 c7 c8 c9 c10 c11 c12_9 c13) d h → Ends (EX D) (u_at kl_249) (161, [some (.ref a0), some (.int x1), some (.int x2), some (.int x3), some (.int x4)], [.long t11, .int 4, .ref (aP d 12 19 a0)], h) QQ := by
        intro h hW
        have hF := hK
        obtain ⟨c12_13, hc12_13, hF⟩ := ob_some hF
        refine en_last (by decide +kernel : u_at kl_249 161 = some (.lastore, [])) hW ha0 rfl (by decide) hc12_13 (fun h hW => ?_)
        have hW : HW (mkw c0 c1 c2 c3 c4 c5 c6 c7 c8 c9 c10 c11 c12_13 c13) d h := hW
        refine en_segs [(162, .aload_n 0, [])] (by decide +kernel) (y := (163, [some (.ref a0), some (.int x1), some (.int x2), some (.int x3), some (.int x4)], [.ref a0], h)) rfl ?_
        refine en_get (by decide +kernel : u_at kl_249 163 = some (.getfield 36, [12, 19])) hW ha0 (by decide) rfl ?_
        refine en_segs [(166, .iconst 5, []), (167, .aload_n 0, []), (168, .aload_n 0, []), (169, .iload_n 1, []), (170, .iconst 0, [])] (by decide +kernel) (y := (171, [some (.ref a0), some (.int x1), some (.int x2), some (.int x3), some (.int x4)], [.int 0, .int x1, .ref a0, .ref a0, .int 5, .ref (aP d 12 19 a0)], h)) rfl ?_
        obtain ⟨r14, hr14, hF⟩ := ob_some hF
        refine en_vi (r := [.ref a0, .int 5, .ref (aP d 12 19 a0)]) (by decide +kernel : u_at kl_249 171 = some (.invokevirtual 343, [223, 2, 12])) hW ha0 rfl rfl (Nat.le_of_ble_eq_true rfl) (e_223 (D := D) (by omega) hW ha0 hr14) (fun h' q => ?_)
        subst q
        obtain ⟨r15, hr15, hF⟩ := ob_some hF
        refine en_vi (r := [.int 5, .ref (aP d 12 19 a0)]) (by decide +kernel : u_at kl_249 174 = some (.invokevirtual 364, [230, 1, 12])) hW ha0 rfl rfl (Nat.le_of_ble_eq_true rfl) (e_230 (D := D) (by omega) hW ha0 hr15) (fun h' q => ?_)
        subst q
        refine en_segs [(177, .i2l, [])] (by decide +kernel) (y := (178, [some (.ref a0), some (.int x1), some (.int x2), some (.int x3), some (.int x4)], [.long ((r15 : Int32).toInt64), .int 5, .ref (aP d 12 19 a0)], h)) rfl ?_
        obtain ⟨c12_16, hc12_16, hF⟩ := ob_some hF
        refine en_last (by decide +kernel : u_at kl_249 178 = some (.lastore, [])) hW ha0 rfl (by decide) hc12_16 (fun h hW => ?_)
        have hW : HW (mkw c0 c1 c2 c3 c4 c5 c6 c7 c8 c9 c10 c11 c12_16 c13) d h := hW
        refine en_segs [(179, .aload_n 0, [])] (by decide +kernel) (y := (180, [some (.ref a0), some (.int x1), some (.int x2), some (.int x3), some (.int x4)], [.ref a0], h)) rfl ?_
        refine en_get (by decide +kernel : u_at kl_249 180 = some (.getfield 36, [12, 19])) hW ha0 (by decide) rfl ?_
        refine en_segs [(183, .bipush 6, []), (185, .iload_n 2, [])] (by decide +kernel) (y := (186, [some (.ref a0), some (.int x1), some (.int x2), some (.int x3), some (.int x4)], [.int x2, .int 6, .ref (aP d 12 19 a0)], h)) rfl ?_
        obtain ⟨t17, hX, hK⟩ := ob_some hF
        have j18 : ∀ h : UH, HW (mkw c0 c1 c2 c3 c4 c5 c6 c7 c8 c9 c10 c11 c12_16 c13) d h → Ends (EX D) (u_at kl_249) (197, [some (.ref a0), some (.int x1), some (.int x2), some (.int x3), some (.int x4)], [.long t17, .int 6, .ref (aP d 12 19 a0)], h) QQ := by
          intro h hW
          have hF := hK
          obtain ⟨c12_19, hc12_19, hF⟩ := ob_some hF
          refine en_last (by decide +kernel : u_at kl_249 197 = some (.lastore, [])) hW ha0 rfl (by decide) hc12_19 (fun h hW => ?_)
          have hW : HW (mkw c0 c1 c2 c3 c4 c5 c6 c7 c8 c9 c10 c11 c12_19 c13) d h := hW
          refine en_segs [(198, .aload_n 0, [])] (by decide +kernel) (y := (199, [some (.ref a0), some (.int x1), some (.int x2), some (.int x3), some (.int x4)], [.ref a0], h)) rfl ?_
          refine en_get (by decide +kernel : u_at kl_249 199 = some (.getfield 36, [12, 19])) hW ha0 (by decide) rfl ?_
          refine en_segs [(202, .bipush 7, []), (204, .iload_n 3, [])] (by decide +kernel) (y := (205, [some (.ref a0), some (.int x1), some (.int x2), some (.int x3), some (.int x4)], [.int x3, .int 7, .ref (aP d 12 19 a0)], h)) rfl ?_
          obtain ⟨t20, hX, hK⟩ := ob_some hF
          have j21 : ∀ h : UH, HW (mkw c0 c1 c2 c3 c4 c5 c6 c7 c8 c9 c10 c11 c12_19 c13) d h → Ends (EX D) (u_at kl_249) (216, [some (.ref a0), some (.int x1), some (.int x2), some (.int x3), some (.int x4)], [.long t20, .int 7, .ref (aP d 12 19 a0)], h) QQ := by
            intro h hW
            have hF := hK
            obtain ⟨c12_22, hc12_22, hF⟩ := ob_some hF
            refine en_last (by decide +kernel : u_at kl_249 216 = some (.lastore, [])) hW ha0 rfl (by decide) hc12_22 (fun h hW => ?_)
            have hW : HW (mkw c0 c1 c2 c3 c4 c5 c6 c7 c8 c9 c10 c11 c12_22 c13) d h := hW
            refine en_segs [(217, .aload_n 0, [])] (by decide +kernel) (y := (218, [some (.ref a0), some (.int x1), some (.int x2), some (.int x3), some (.int x4)], [.ref a0], h)) rfl ?_
            refine en_get (by decide +kernel : u_at kl_249 218 = some (.getfield 36, [12, 19])) hW ha0 (by decide) rfl ?_
            refine en_segs [(221, .bipush 8, []), (223, .iload_n 2, [])] (by decide +kernel) (y := (224, [some (.ref a0), some (.int x1), some (.int x2), some (.int x3), some (.int x4)], [.int x2, .int 8, .ref (aP d 12 19 a0)], h)) rfl ?_
            obtain ⟨t23, hX, hK⟩ := ob_some hF
            have j24 : ∀ h : UH, HW (mkw c0 c1 c2 c3 c4 c5 c6 c7 c8 c9 c10 c11 c12_22 c13) d h → Ends (EX D) (u_at kl_249) (237, [some (.ref a0), some (.int x1), some (.int x2), some (.int x3), some (.int x4)], [.long t23, .int 8, .ref (aP d 12 19 a0)], h) QQ := by
              intro h hW
              have hF := hK
              obtain ⟨c12_25, hc12_25, hF⟩ := ob_some hF
              refine en_last (by decide +kernel : u_at kl_249 237 = some (.lastore, [])) hW ha0 rfl (by decide) hc12_25 (fun h hW => ?_)
              have hW : HW (mkw c0 c1 c2 c3 c4 c5 c6 c7 c8 c9 c10 c11 c12_25 c13) d h := hW
              refine en_segs [(238, .aload_n 0, [])] (by decide +kernel) (y := (239, [some (.ref a0), some (.int x1), some (.int x2), some (.int x3), some (.int x4)], [.ref a0], h)) rfl ?_
              refine en_get (by decide +kernel : u_at kl_249 239 = some (.getfield 36, [12, 19])) hW ha0 (by decide) rfl ?_
              refine en_segs [(242, .bipush 9, []), (244, .iload_n 3, [])] (by decide +kernel) (y := (245, [some (.ref a0), some (.int x1), some (.int x2), some (.int x3), some (.int x4)], [.int x3, .int 9, .ref (aP d 12 19 a0)], h)) rfl ?_
              obtain ⟨t26, hX, hK⟩ := ob_some hF
              have j27 : ∀ h : UH, HW (mkw c0 c1 c2 c3 c4 c5 c6 c7 c8 c9 c10 c11 c12_25 c13) d h → Ends (EX D) (u_at kl_249) (258, [some (.ref a0), some (.int x1), some (.int x2), some (.int x3), some (.int x4)], [.long t26, .int 9, .ref (aP d 12 19 a0)], h) QQ := by
                intro h hW
                have hF := hK
                obtain ⟨c12_28, hc12_28, hF⟩ := ob_some hF
                refine en_last (by decide +kernel : u_at kl_249 258 = some (.lastore, [])) hW ha0 rfl (by decide) hc12_28 (fun h hW => ?_)
                have hW : HW (mkw c0 c1 c2 c3 c4 c5 c6 c7 c8 c9 c10 c11 c12_28 c13) d h := hW
                refine en_segs [(259, .aload_n 0, [])] (by decide +kernel) (y := (260, [some (.ref a0), some (.int x1), some (.int x2), some (.int x3), some (.int x4)], [.ref a0], h)) rfl ?_
                refine en_get (by decide +kernel : u_at kl_249 260 = some (.getfield 36, [12, 19])) hW ha0 (by decide) rfl ?_
                refine en_segs [(263, .bipush 10, []), (265, .aload_n 0, []), (266, .iload_n 1, []), (267, .iconst 4, [])] (by decide +kernel) (y := (268, [some (.ref a0), some (.int x1), some (.int x2), some (.int x3), some (.int x4)], [.int 4, .int x1, .ref a0, .int 10, .ref (aP d 12 19 a0)], h)) rfl ?_
                obtain ⟨r29, hr29, hF⟩ := ob_some hF
                refine en_vi (r := [.int 10, .ref (aP d 12 19 a0)]) (by decide +kernel : u_at kl_249 268 = some (.invokevirtual 343, [223, 2, 12])) hW ha0 rfl rfl (Nat.le_of_ble_eq_true rfl) (e_223 (D := D) (by omega) hW ha0 hr29) (fun h' q => ?_)
                subst q
                refine en_segs [(271, .i2l, [])] (by decide +kernel) (y := (272, [some (.ref a0), some (.int x1), some (.int x2), some (.int x3), some (.int x4)], [.long ((r29 : Int32).toInt64), .int 10, .ref (aP d 12 19 a0)], h)) rfl ?_
                obtain ⟨c12_30, hc12_30, hF⟩ := ob_some hF
                refine en_last (by decide +kernel : u_at kl_249 272 = some (.lastore, [])) hW ha0 rfl (by decide) hc12_30 (fun h hW => ?_)
                have hW : HW (mkw c0 c1 c2 c3 c4 c5 c6 c7 c8 c9 c10 c11 c12_30 c13) d h := hW
                refine en_segs [(273, .aload_n 0, [])] (by decide +kernel) (y := (274, [some (.ref a0), some (.int x1), some (.int x2), some (.int x3), some (.int x4)], [.ref a0], h)) rfl ?_
                refine en_get (by decide +kernel : u_at kl_249 274 = some (.getfield 36, [12, 19])) hW ha0 (by decide) rfl ?_
                refine en_segs [(277, .bipush 11, []), (279, .aload_n 0, [])] (by decide +kernel) (y := (280, [some (.ref a0), some (.int x1), some (.int x2), some (.int x3), some (.int x4)], [.ref a0, .int 11, .ref (aP d 12 19 a0)], h)) rfl ?_
                refine en_get (by decide +kernel : u_at kl_249 280 = some (.getfield 39, [12, 20])) hW ha0 (by decide) rfl ?_
                refine en_segs [(283, .iconst 4, [])] (by decide +kernel) (y := (284, [some (.ref a0), some (.int x1), some (.int x2), some (.int x3), some (.int x4)], [.int 4, .ref (aP d 12 20 a0), .int 11, .ref (aP d 12 19 a0)], h)) rfl ?_
                obtain ⟨v31, hv31, hF⟩ := ob_some hF
                refine en_iald (by decide +kernel : u_at kl_249 284 = some (.iaload, [])) hW ha0 rfl (by decide) hv31 ?_
                refine en_segs [(285, .i2l, [])] (by decide +kernel) (y := (286, [some (.ref a0), some (.int x1), some (.int x2), some (.int x3), some (.int x4)], [.long ((v31 : Int32).toInt64), .int 11, .ref (aP d 12 19 a0)], h)) rfl ?_
                obtain ⟨c12_32, hc12_32, hF⟩ := ob_some hF
                refine en_last (by decide +kernel : u_at kl_249 286 = some (.lastore, [])) hW ha0 rfl (by decide) hc12_32 (fun h hW => ?_)
                have hW : HW (mkw c0 c1 c2 c3 c4 c5 c6 c7 c8 c9 c10 c11 c12_32 c13) d h := hW
                obtain rfl := Option.some.inj hF
                exact en_ret (by decide +kernel : u_at kl_249 287 = some (.return_, [])) rfl (hQ _ hW)
              have hF := hX
              refine en_if_ge (by decide +kernel : u_at kl_249 245 = some (.ifCond .ge 7, [252])) (fun b33 => ?_) (fun b33 => ?_)
              · replace hF := i_pos b33 hF
                refine en_segs [(252, .aload_n 0, []), (253, .iload_n 3, [])] (by decide +kernel) (y := (254, [some (.ref a0), some (.int x1), some (.int x2), some (.int x3), some (.int x4)], [.int x3, .ref a0, .int 9, .ref (aP d 12 19 a0)], h)) rfl ?_
                obtain ⟨r34, hr34, hF⟩ := ob_some hF
                refine en_vi (r := [.int 9, .ref (aP d 12 19 a0)]) (by decide +kernel : u_at kl_249 254 = some (.invokevirtual 364, [230, 1, 12])) hW ha0 rfl rfl (Nat.le_of_ble_eq_true rfl) (e_230 (D := D) (by omega) hW ha0 hr34) (fun h' q => ?_)
                subst q
                refine en_segs [(257, .i2l, [])] (by decide +kernel) (y := (258, [some (.ref a0), some (.int x1), some (.int x2), some (.int x3), some (.int x4)], [.long ((r34 : Int32).toInt64), .int 9, .ref (aP d 12 19 a0)], h)) rfl ?_
                obtain rfl := Option.some.inj hF
                exact j27 _ hW
              · replace hF := i_neg b33 hF
                refine en_segs [(248, .lconst 0, []), (249, .goto 9, [258])] (by decide +kernel) (y := (258, [some (.ref a0), some (.int x1), some (.int x2), some (.int x3), some (.int x4)], [.long 0, .int 9, .ref (aP d 12 19 a0)], h)) rfl ?_
                obtain rfl := Option.some.inj hF
                exact j27 _ hW
            have hF := hX
            refine en_if_ge (by decide +kernel : u_at kl_249 224 = some (.ifCond .ge 7, [231])) (fun b35 => ?_) (fun b35 => ?_)
            · replace hF := i_pos b35 hF
              refine en_segs [(231, .aload_n 0, []), (232, .iload_n 2, [])] (by decide +kernel) (y := (233, [some (.ref a0), some (.int x1), some (.int x2), some (.int x3), some (.int x4)], [.int x2, .ref a0, .int 8, .ref (aP d 12 19 a0)], h)) rfl ?_
              obtain ⟨r36, hr36, hF⟩ := ob_some hF
              refine en_vi (r := [.int 8, .ref (aP d 12 19 a0)]) (by decide +kernel : u_at kl_249 233 = some (.invokevirtual 364, [230, 1, 12])) hW ha0 rfl rfl (Nat.le_of_ble_eq_true rfl) (e_230 (D := D) (by omega) hW ha0 hr36) (fun h' q => ?_)
              subst q
              refine en_segs [(236, .i2l, [])] (by decide +kernel) (y := (237, [some (.ref a0), some (.int x1), some (.int x2), some (.int x3), some (.int x4)], [.long ((r36 : Int32).toInt64), .int 8, .ref (aP d 12 19 a0)], h)) rfl ?_
              obtain rfl := Option.some.inj hF
              exact j24 _ hW
            · replace hF := i_neg b35 hF
              refine en_segs [(227, .lconst 0, []), (228, .goto 9, [237])] (by decide +kernel) (y := (237, [some (.ref a0), some (.int x1), some (.int x2), some (.int x3), some (.int x4)], [.long 0, .int 8, .ref (aP d 12 19 a0)], h)) rfl ?_
              obtain rfl := Option.some.inj hF
              exact j24 _ hW
          have hF := hX
          refine en_if_ge (by decide +kernel : u_at kl_249 205 = some (.ifCond .ge 9, [214])) (fun b37 => ?_) (fun b37 => ?_)
          · replace hF := i_pos b37 hF
            refine en_segs [(214, .iload_n 3, []), (215, .i2l, [])] (by decide +kernel) (y := (216, [some (.ref a0), some (.int x1), some (.int x2), some (.int x3), some (.int x4)], [.long ((x3 : Int32).toInt64), .int 7, .ref (aP d 12 19 a0)], h)) rfl ?_
            obtain rfl := Option.some.inj hF
            exact j21 _ hW
          · replace hF := i_neg b37 hF
            refine en_segs [(208, .ldc2_w 412, [99]), (211, .goto 5, [216])] (by decide +kernel) (y := (216, [some (.ref a0), some (.int x1), some (.int x2), some (.int x3), some (.int x4)], [.long 99, .int 7, .ref (aP d 12 19 a0)], h)) rfl ?_
            obtain rfl := Option.some.inj hF
            exact j21 _ hW
        have hF := hX
        refine en_if_ge (by decide +kernel : u_at kl_249 186 = some (.ifCond .ge 9, [195])) (fun b38 => ?_) (fun b38 => ?_)
        · replace hF := i_pos b38 hF
          refine en_segs [(195, .iload_n 2, []), (196, .i2l, [])] (by decide +kernel) (y := (197, [some (.ref a0), some (.int x1), some (.int x2), some (.int x3), some (.int x4)], [.long ((x2 : Int32).toInt64), .int 6, .ref (aP d 12 19 a0)], h)) rfl ?_
          obtain rfl := Option.some.inj hF
          exact j18 _ hW
        · replace hF := i_neg b38 hF
          refine en_segs [(189, .ldc2_w 412, [99]), (192, .goto 5, [197])] (by decide +kernel) (y := (197, [some (.ref a0), some (.int x1), some (.int x2), some (.int x3), some (.int x4)], [.long 99, .int 6, .ref (aP d 12 19 a0)], h)) rfl ?_
          obtain rfl := Option.some.inj hF
          exact j18 _ hW
      have hF := hX
      refine en_if_ge (by decide +kernel : u_at kl_249 145 = some (.ifCond .ge 9, [154])) (fun b39 => ?_) (fun b39 => ?_)
      · replace hF := i_pos b39 hF
        refine en_segs [(154, .aload_n 0, []), (155, .iload_n 1, []), (156, .iconst 3, [])] (by decide +kernel) (y := (157, [some (.ref a0), some (.int x1), some (.int x2), some (.int x3), some (.int x4)], [.int 3, .int x1, .ref a0, .int 4, .ref (aP d 12 19 a0)], h)) rfl ?_
        obtain ⟨r40, hr40, hF⟩ := ob_some hF
        refine en_vi (r := [.int 4, .ref (aP d 12 19 a0)]) (by decide +kernel : u_at kl_249 157 = some (.invokevirtual 343, [223, 2, 12])) hW ha0 rfl rfl (Nat.le_of_ble_eq_true rfl) (e_223 (D := D) (by omega) hW ha0 hr40) (fun h' q => ?_)
        subst q
        refine en_segs [(160, .i2l, [])] (by decide +kernel) (y := (161, [some (.ref a0), some (.int x1), some (.int x2), some (.int x3), some (.int x4)], [.long ((r40 : Int32).toInt64), .int 4, .ref (aP d 12 19 a0)], h)) rfl ?_
        obtain rfl := Option.some.inj hF
        exact j12 _ hW
      · replace hF := i_neg b39 hF
        refine en_segs [(148, .ldc2_w 412, [99]), (151, .goto 10, [161])] (by decide +kernel) (y := (161, [some (.ref a0), some (.int x1), some (.int x2), some (.int x3), some (.int x4)], [.long 99, .int 4, .ref (aP d 12 19 a0)], h)) rfl ?_
        obtain rfl := Option.some.inj hF
        exact j12 _ hW
    · replace hF := i_neg b2 hF
      refine en_segs [(18, .aload_n 0, []), (19, .iload_n 1, []), (20, .iload 4, [])] (by decide +kernel) (y := (22, [some (.ref a0), some (.int x1), some (.int x2), some (.int x3), some (.int x4)], [.int x4, .int x1, .ref a0], h)) rfl ?_
      obtain ⟨r41, hr41, hF⟩ := ob_some hF
      refine en_vi (r := []) (by decide +kernel : u_at kl_249 22 = some (.invokevirtual 394, [241, 2, 12])) hW ha0 rfl rfl (Nat.le_of_ble_eq_true rfl) (e_241 (D := D) (by omega) hW ha0 hr41) (fun h' q => ?_)
      subst q
      refine en_if_ne (by decide +kernel : u_at kl_249 25 = some (.ifCond .ne 6, [31])) (fun b42 => ?_) (fun b42 => ?_)
      · replace hF := i_pos b42 hF
        refine en_segs [(28, .goto 53, [81]), (81, .iinc 4 1, []), (84, .goto (-77), [7])] (by decide +kernel) (y := (7, [some (.ref a0), some (.int x1), some (.int x2), some (.int x3), some (.int (x4 + 1))], [], h)) rfl ?_
        exact (ih _ _ _ _ _ hF) _ _ _ _ rfl rfl rfl rfl  _ hW _ hQ
      · replace hF := i_neg b42 hF
        refine en_segs [(31, .iload_n 2, [])] (by decide +kernel) (y := (32, [some (.ref a0), some (.int x1), some (.int x2), some (.int x3), some (.int x4)], [.int x2], h)) rfl ?_
        obtain ⟨t43, hX, hK⟩ := ob_some hF
        have j44 : ∀ h : UH, HW (mkw c0 c1 c2 c3 c4 c5 c6 c7 c8 c9 c10 c11 c12 c13) d h → Ends (EX D) (u_at kl_249) (55, [some (.ref a0), some (.int x1), some (.int x2), some (.int x3), some (.int x4)], [.int t43], h) QQ := by
          intro h hW
          have hF := hK
          refine en_segs [(55, .istore_n 2, []), (56, .iload_n 3, [])] (by decide +kernel) (y := (57, [some (.ref a0), some (.int x1), some (.int t43), some (.int x3), some (.int x4)], [.int x3], h)) rfl ?_
          obtain ⟨t45, hX, hK⟩ := ob_some hF
          have j46 : ∀ h : UH, HW (mkw c0 c1 c2 c3 c4 c5 c6 c7 c8 c9 c10 c11 c12 c13) d h → Ends (EX D) (u_at kl_249) (80, [some (.ref a0), some (.int x1), some (.int t43), some (.int x3), some (.int x4)], [.int t45], h) QQ := by
            intro h hW
            have hF := hK
            refine en_segs [(80, .istore_n 3, []), (81, .iinc 4 1, []), (84, .goto (-77), [7])] (by decide +kernel) (y := (7, [some (.ref a0), some (.int x1), some (.int t43), some (.int t45), some (.int (x4 + 1))], [], h)) rfl ?_
            exact (ih _ _ _ _ _ hF) _ _ _ _ rfl rfl rfl rfl  _ hW _ hQ
          have hF := hX
          refine en_if_lt (by decide +kernel : u_at kl_249 57 = some (.ifCond .lt 17, [74])) (fun b47 => ?_) (fun b47 => ?_)
          · replace hF := i_pos b47 hF
            refine en_segs [(74, .iload 4, []), (76, .goto 4, [80])] (by decide +kernel) (y := (80, [some (.ref a0), some (.int x1), some (.int t43), some (.int x3), some (.int x4)], [.int x4], h)) rfl ?_
            obtain rfl := Option.some.inj hF
            exact j46 _ hW
          · replace hF := i_neg b47 hF
            refine en_segs [(60, .aload_n 0, []), (61, .iload 4, [])] (by decide +kernel) (y := (63, [some (.ref a0), some (.int x1), some (.int t43), some (.int x3), some (.int x4)], [.int x4, .ref a0], h)) rfl ?_
            obtain ⟨r48, hr48, hF⟩ := ob_some hF
            refine en_vi (r := []) (by decide +kernel : u_at kl_249 63 = some (.invokevirtual 364, [230, 1, 12])) hW ha0 rfl rfl (Nat.le_of_ble_eq_true rfl) (e_230 (D := D) (by omega) hW ha0 hr48) (fun h' q => ?_)
            subst q
            refine en_segs [(66, .aload_n 0, []), (67, .iload_n 3, [])] (by decide +kernel) (y := (68, [some (.ref a0), some (.int x1), some (.int t43), some (.int x3), some (.int x4)], [.int x3, .ref a0, .int r48], h)) rfl ?_
            obtain ⟨r49, hr49, hF⟩ := ob_some hF
            refine en_vi (r := [.int r48]) (by decide +kernel : u_at kl_249 68 = some (.invokevirtual 364, [230, 1, 12])) hW ha0 rfl rfl (Nat.le_of_ble_eq_true rfl) (e_230 (D := D) (by omega) hW ha0 hr49) (fun h' q => ?_)
            subst q
            refine en_ic_le (by decide +kernel : u_at kl_249 71 = some (.if_icmp .le 8, [79])) (fun b50 => ?_) (fun b50 => ?_)
            · replace hF := i_pos b50 hF
              refine en_segs [(79, .iload_n 3, [])] (by decide +kernel) (y := (80, [some (.ref a0), some (.int x1), some (.int t43), some (.int x3), some (.int x4)], [.int x3], h)) rfl ?_
              obtain rfl := Option.some.inj hF
              exact j46 _ hW
            · replace hF := i_neg b50 hF
              refine en_segs [(74, .iload 4, []), (76, .goto 4, [80])] (by decide +kernel) (y := (80, [some (.ref a0), some (.int x1), some (.int t43), some (.int x3), some (.int x4)], [.int x4], h)) rfl ?_
              obtain rfl := Option.some.inj hF
              exact j46 _ hW
        have hF := hX
        refine en_if_lt (by decide +kernel : u_at kl_249 32 = some (.ifCond .lt 17, [49])) (fun b51 => ?_) (fun b51 => ?_)
        · replace hF := i_pos b51 hF
          refine en_segs [(49, .iload 4, []), (51, .goto 4, [55])] (by decide +kernel) (y := (55, [some (.ref a0), some (.int x1), some (.int x2), some (.int x3), some (.int x4)], [.int x4], h)) rfl ?_
          obtain rfl := Option.some.inj hF
          exact j44 _ hW
        · replace hF := i_neg b51 hF
          refine en_segs [(35, .aload_n 0, []), (36, .iload 4, [])] (by decide +kernel) (y := (38, [some (.ref a0), some (.int x1), some (.int x2), some (.int x3), some (.int x4)], [.int x4, .ref a0], h)) rfl ?_
          obtain ⟨r52, hr52, hF⟩ := ob_some hF
          refine en_vi (r := []) (by decide +kernel : u_at kl_249 38 = some (.invokevirtual 364, [230, 1, 12])) hW ha0 rfl rfl (Nat.le_of_ble_eq_true rfl) (e_230 (D := D) (by omega) hW ha0 hr52) (fun h' q => ?_)
          subst q
          refine en_segs [(41, .aload_n 0, []), (42, .iload_n 2, [])] (by decide +kernel) (y := (43, [some (.ref a0), some (.int x1), some (.int x2), some (.int x3), some (.int x4)], [.int x2, .ref a0, .int r52], h)) rfl ?_
          obtain ⟨r53, hr53, hF⟩ := ob_some hF
          refine en_vi (r := [.int r52]) (by decide +kernel : u_at kl_249 43 = some (.invokevirtual 364, [230, 1, 12])) hW ha0 rfl rfl (Nat.le_of_ble_eq_true rfl) (e_230 (D := D) (by omega) hW ha0 hr53) (fun h' q => ?_)
          subst q
          refine en_ic_ge (by decide +kernel : u_at kl_249 46 = some (.if_icmp .ge 8, [54])) (fun b54 => ?_) (fun b54 => ?_)
          · replace hF := i_pos b54 hF
            refine en_segs [(54, .iload_n 2, [])] (by decide +kernel) (y := (55, [some (.ref a0), some (.int x1), some (.int x2), some (.int x3), some (.int x4)], [.int x2], h)) rfl ?_
            obtain rfl := Option.some.inj hF
            exact j44 _ hW
          · replace hF := i_neg b54 hF
            refine en_segs [(49, .iload 4, []), (51, .goto 4, [55])] (by decide +kernel) (y := (55, [some (.ref a0), some (.int x1), some (.int x2), some (.int x3), some (.int x4)], [.int x4], h)) rfl ?_
            obtain rfl := Option.some.inj hF
            exact j44 _ hW
def F_249 (c12 : Cl) (a0 : Nat) (p1 : Int32) : Option Cl :=
  G_249 c12 a0 0 [p1, (-1), (-1), 0] [] []
set_option maxRecDepth 100000 in
set_option maxHeartbeats 4000000 in
/-- HeadCountsModel.words -/
theorem e_249 {D : Nat} {c0 c1 c2 c3 c4 c5 c6 c7 c8 c9 c10 c11 c12 c13 : Cl} {d : Ad} {h : UH} {a0 : Nat} {p1 : Int32} {r : Cl} (hD : 7 ≤ D) (hW : HW (mkw c0 c1 c2 c3 c4 c5 c6 c7 c8 c9 c10 c11 c12 c13) d h) (ha0 : aK d a0 = (0, 12, 0)) (hF : F_249 c12 a0 p1 = some r) : ∃ q, EX D 249 [.ref a0, .int p1] h q ∧ q.1 = none ∧ HW (mkw c0 c1 c2 c3 c4 c5 c6 c7 c8 c9 c10 c11 r c13) d q.2 := by
  obtain ⟨D, rfl⟩ : ∃ E, D = E + 1 := ⟨D - 1, by omega⟩
  unfold F_249 at hF
  refine ex_in (kl := kl_249) (nL := 5) rfl (by decide +kernel) (Nat.le_of_ble_eq_true rfl) ?_
  obtain ⟨QQ, hQQ⟩ : ∃ QQ : UR → Prop, QQ = (fun q : UR => q.1 = none ∧ HW (mkw c0 c1 c2 c3 c4 c5 c6 c7 c8 c9 c10 c11 r c13) d q.2) := ⟨_, rfl⟩
  rw [← hQQ]
  have hQ : ∀ h' : UH, HW (mkw c0 c1 c2 c3 c4 c5 c6 c7 c8 c9 c10 c11 r c13) d h' → QQ (none, h') := fun h' p => by rw [hQQ]; exact ⟨rfl, p⟩
  clear hQQ
  show Ends (EX D) (u_at kl_249) (0, [some (.ref a0), some (.int p1), none, none, none], [], h) QQ
  refine en_segs [(0, .iconst (-1), []), (1, .istore_n 2, []), (2, .iconst (-1), []), (3, .istore_n 3, []), (4, .iconst 0, []), (5, .istore 4, [])] (by decide +kernel) (y := (7, [some (.ref a0), some (.int p1), some (.int (-1)), some (.int (-1)), some (.int 0)], [], h)) rfl ?_
  exact (g_249 (D := D) hD ha0 _ _ _ _ _ hF) _ _ _ _ rfl rfl rfl rfl  _ hW _ hQ
