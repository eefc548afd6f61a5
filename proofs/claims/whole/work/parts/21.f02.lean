def G_63 (c1 : Cl) (c8 : Cl) (c10 : Cl) (c13 : Cl) (d : Ad) (a0 : Nat) (a1 : Nat) (lab : Nat) (xs : List Int32) (ys : List Int64) (zs : List Nat) (c6 : Cl) (c7 : Cl) : Option (Cl × Cl × Cl × Ad) := match lab, xs, ys, zs with
  | 0, [x2, x3], [], [] =>
    if x2 ≤ x3 then
    F_56 c6 c13 d (cR c7 0 a0) x2 >>= fun r11 =>
    F_65 c6 c7 a0 >>= fun r12 =>
    some (sI r12 1 a0 1) >>= fun c7_13 =>
    some (c6, c7_13, r11, d)
    else
    ald (cA c13 0 (cR c6 14 (cR c7 0 a0))) (aN d (cR c6 14 (cR c7 0 a0))) x3 >>= fun v17 =>
    ldl (cB c13 0 (cR c6 12 (cR c7 0 a0))) (aN d (cR c6 12 (cR c7 0 a0))) v17 >>= fun v18 =>
    some (sJ c7 2 a0 ((cJ c7 2 a0) + v18)) >>= fun c7_19 =>
    ald (cA c13 0 (cR c6 14 (cR c7_19 0 a0))) (aN d (cR c6 14 (cR c7_19 0 a0))) x3 >>= fun v22 =>
    F_64 c6 c7_19 a0 v22 >>= fun r23 =>
    G_63 c1 c8 c10 c13 d a0 a1 0 [x2, x3 + 1] [] [] r23.1 r23.2
  | _, _, _, _ => none
partial_fixpoint
set_option maxRecDepth 100000 in
set_option maxHeartbeats 4000000 in
theorem g_63 {D : Nat} (hD : 6 ≤ D + 1) {c0 c1 c2 c3 c4 c5 c8 c9 c10 c11 c12 c13 : Cl} {d : Ad} {a0 : Nat} {a1 : Nat} (ha0 : aK d a0 = (0, 7, 0)) (ha1 : aK d a1 = (0, 10, 0)) : ∀ (lab : Nat) (xs : List Int32) (ys : List Int64) (zs : List Nat) (c6 : Cl) (c7 : Cl) (r : (Cl × Cl × Cl × Ad)), G_63 c1 c8 c10 c13 d a0 a1 lab xs ys zs c6 c7 = some r →
    (∀ (x2 : Int32) (x3 : Int32), lab = 0 → xs = [x2, x3] → ys = [] → zs = [] → ∀ h : UH, HW (mkw c0 c1 c2 c3 c4 c5 c6 c7 c8 c9 c10 c11 c12 c13) d h → ∀ QQ : UR → Prop, (∀ h' : UH, HX d (mkw c0 c1 c2 c3 c4 c5 r.1 r.2.1 c8 c9 c10 c11 c12 r.2.2.1) r.2.2.2 h' → QQ (none, h')) → Ends (EX D) (u_at kl_63) (46, [some (.ref a0), none, some (.int x2), some (.int x3)], [], h) QQ) := by
  refine G_63.partial_correctness _ _ _ _ _ _ _ (motive := fun lab xs ys zs c6 c7 r =>
    (∀ (x2 : Int32) (x3 : Int32), lab = 0 → xs = [x2, x3] → ys = [] → zs = [] → ∀ h : UH, HW (mkw c0 c1 c2 c3 c4 c5 c6 c7 c8 c9 c10 c11 c12 c13) d h → ∀ QQ : UR → Prop, (∀ h' : UH, HX d (mkw c0 c1 c2 c3 c4 c5 r.1 r.2.1 c8 c9 c10 c11 c12 r.2.2.1) r.2.2.2 h' → QQ (none, h')) → Ends (EX D) (u_at kl_63) (46, [some (.ref a0), none, some (.int x2), some (.int x3)], [], h) QQ)) ?_
  intro G ih lab xs ys zs c6 c7 r hF
  · intro x2 x3 e1 e2 e3 e4 h hW QQ hQ
    subst e1 e2 e3 e4
    refine en_segs [(46, .iload_n 3, []), (47, .iload_n 2, [])] (by decide +kernel) (y := (48, [some (.ref a0), none, some (.int x2), some (.int x3)], [.int x2, .int x3], h)) rfl ?_
    refine en_ic_ge (by decide +kernel : u_at kl_63 48 = some (.if_icmp .ge 48, [96])) (fun b9 => ?_) (fun b9 => ?_)
    · replace hF := i_pos b9 hF
      refine en_segs [(96, .aload_n 0, [])] (by decide +kernel) (y := (97, [some (.ref a0), none, some (.int x2), some (.int x3)], [.ref a0], h)) rfl ?_
      have k10 : aK d (cR c7 0 a0) = (0, 6, 0) := wf_obj hW ha0 (by decide) rfl
      refine en_get (by decide +kernel : u_at kl_63 97 = some (.getfield 18, [7, 0])) hW ha0 (by decide) rfl ?_
      refine en_segs [(100, .iload_n 2, [])] (by decide +kernel) (y := (101, [some (.ref a0), none, some (.int x2), some (.int x3)], [.int x2, .ref (cR c7 0 a0)], h)) rfl ?_
      obtain ⟨r11, hr11, hF⟩ := ob_some hF
      refine en_vv (r := []) (by decide +kernel : u_at kl_63 101 = some (.invokevirtual 62, [56, 1, 6])) hW k10 rfl rfl (Nat.le_of_ble_eq_true rfl) (e_56 (D := D) (by omega) hW k10 hr11) (fun h hW => ?_)
      have hW : HW (mkw c0 c1 c2 c3 c4 c5 c6 c7 c8 c9 c10 c11 c12 r11) d h := hW
      refine en_segs [(104, .aload_n 0, [])] (by decide +kernel) (y := (105, [some (.ref a0), none, some (.int x2), some (.int x3)], [.ref a0], h)) rfl ?_
      obtain ⟨r12, hr12, hF⟩ := ob_some hF
      refine en_vv (r := []) (by decide +kernel : u_at kl_63 105 = some (.invokevirtual 65, [65, 0, 7])) hW ha0 rfl rfl (Nat.le_of_ble_eq_true rfl) (e_65 (D := D) (by omega) hW ha0 hr12) (fun h hW => ?_)
      have hW : HW (mkw c0 c1 c2 c3 c4 c5 c6 r12 c8 c9 c10 c11 c12 r11) d h := hW
      refine en_segs [(108, .aload_n 0, []), (109, .iconst 1, [])] (by decide +kernel) (y := (110, [some (.ref a0), none, some (.int x2), some (.int x3)], [.int 1, .ref a0], h)) rfl ?_
      obtain ⟨c7_13, hc7_13, hF⟩ := ob_some hF
      refine en_putI (by decide +kernel : u_at kl_63 110 = some (.putfield 22, [7, 1, 2])) hW ha0 rfl (by decide) rfl (fun h hW => ?_)
      have hW : HW (mkw c0 c1 c2 c3 c4 c5 c6 c7_13 c8 c9 c10 c11 c12 r11) d h := by rw [← Option.some.inj hc7_13]; exact hW
      obtain rfl := Option.some.inj hF
      exact en_ret (by decide +kernel : u_at kl_63 113 = some (.return_, [])) rfl (hQ _ ⟨hW, Adx.rf⟩)
    · replace hF := i_neg b9 hF
      refine en_segs [(51, .aload_n 0, []), (52, .dup, [])] (by decide +kernel) (y := (53, [some (.ref a0), none, some (.int x2), some (.int x3)], [.ref a0, .ref a0], h)) rfl ?_
      refine en_get (by decide +kernel : u_at kl_63 53 = some (.getfield 36, [7, 2])) hW ha0 (by decide) rfl ?_
      refine en_segs [(56, .aload_n 0, [])] (by decide +kernel) (y := (57, [some (.ref a0), none, some (.int x2), some (.int x3)], [.ref a0, .long (cJ c7 2 a0), .ref a0], h)) rfl ?_
      have k14 : aK d (cR c7 0 a0) = (0, 6, 0) := wf_obj hW ha0 (by decide) rfl
      refine en_get (by decide +kernel : u_at kl_63 57 = some (.getfield 18, [7, 0])) hW ha0 (by decide) rfl ?_
      have k15 : aK d (cR c6 12 (cR c7 0 a0)) = (2, 2, 0) := wf_free hW k14 (by decide) rfl
      refine en_get (by decide +kernel : u_at kl_63 60 = some (.getfield 49, [6, 12])) hW k14 (by decide) rfl ?_
      refine en_segs [(63, .aload_n 0, [])] (by decide +kernel) (y := (64, [some (.ref a0), none, some (.int x2), some (.int x3)], [.ref a0, .ref (cR c6 12 (cR c7 0 a0)), .long (cJ c7 2 a0), .ref a0], h)) rfl ?_
      refine en_get (by decide +kernel : u_at kl_63 64 = some (.getfield 18, [7, 0])) hW ha0 (by decide) rfl ?_
      have k16 : aK d (cR c6 14 (cR c7 0 a0)) = (2, 1, 0) := wf_free hW k14 (by decide) rfl
      refine en_get (by decide +kernel : u_at kl_63 67 = some (.getfield 55, [6, 14])) hW k14 (by decide) rfl ?_
      refine en_segs [(70, .iload_n 3, [])] (by decide +kernel) (y := (71, [some (.ref a0), none, some (.int x2), some (.int x3)], [.int x3, .ref (cR c6 14 (cR c7 0 a0)), .ref (cR c6 12 (cR c7 0 a0)), .long (cJ c7 2 a0), .ref a0], h)) rfl ?_
      obtain ⟨v17, hv17, hF⟩ := ob_some hF
      refine en_fiald (by decide +kernel : u_at kl_63 71 = some (.iaload, [])) hW k16 hv17 ?_
      obtain ⟨v18, hv18, hF⟩ := ob_some hF
      refine en_flald (by decide +kernel : u_at kl_63 72 = some (.laload, [])) hW k15 hv18 ?_
      refine en_segs [(73, .ladd, [])] (by decide +kernel) (y := (74, [some (.ref a0), none, some (.int x2), some (.int x3)], [.long ((cJ c7 2 a0) + v18), .ref a0], h)) rfl ?_
      obtain ⟨c7_19, hc7_19, hF⟩ := ob_some hF
      refine en_putJ (by decide +kernel : u_at kl_63 74 = some (.putfield 36, [7, 2, 1])) hW ha0 rfl (by decide) rfl (fun h hW => ?_)
      have hW : HW (mkw c0 c1 c2 c3 c4 c5 c6 c7_19 c8 c9 c10 c11 c12 c13) d h := by rw [← Option.some.inj hc7_19]; exact hW
      refine en_segs [(77, .aload_n 0, []), (78, .aload_n 0, [])] (by decide +kernel) (y := (79, [some (.ref a0), none, some (.int x2), some (.int x3)], [.ref a0, .ref a0], h)) rfl ?_
      have k20 : aK d (cR c7_19 0 a0) = (0, 6, 0) := wf_obj hW ha0 (by decide) rfl
      refine en_get (by decide +kernel : u_at kl_63 79 = some (.getfield 18, [7, 0])) hW ha0 (by decide) rfl ?_
      have k21 : aK d (cR c6 14 (cR c7_19 0 a0)) = (2, 1, 0) := wf_free hW k20 (by decide) rfl
      refine en_get (by decide +kernel : u_at kl_63 82 = some (.getfield 55, [6, 14])) hW k20 (by decide) rfl ?_
      refine en_segs [(85, .iload_n 3, [])] (by decide +kernel) (y := (86, [some (.ref a0), none, some (.int x2), some (.int x3)], [.int x3, .ref (cR c6 14 (cR c7_19 0 a0)), .ref a0], h)) rfl ?_
      obtain ⟨v22, hv22, hF⟩ := ob_some hF
      refine en_fiald (by decide +kernel : u_at kl_63 86 = some (.iaload, [])) hW k21 hv22 ?_
      obtain ⟨r23, hr23, hF⟩ := ob_some hF
      refine en_vv (r := []) (by decide +kernel : u_at kl_63 87 = some (.invokevirtual 58, [64, 1, 7])) hW ha0 rfl rfl (Nat.le_of_ble_eq_true rfl) (e_64 (D := D) (by omega) hW ha0 hr23) (fun h hW => ?_)
      have hW : HW (mkw c0 c1 c2 c3 c4 c5 r23.1 r23.2 c8 c9 c10 c11 c12 c13) d h := hW
      refine en_segs [(90, .iinc 3 1, []), (93, .goto (-47), [46])] (by decide +kernel) (y := (46, [some (.ref a0), none, some (.int x2), some (.int (x3 + 1))], [], h)) rfl ?_
      exact (ih _ _ _ _ _ _ _ hF) _ _ rfl rfl rfl rfl  _ hW _ hQ
def F_63 (c1 : Cl) (c6 : Cl) (c7 : Cl) (c8 : Cl) (c10 : Cl) (c13 : Cl) (d : Ad) (a0 : Nat) (a1 : Nat) : Option (Cl × Cl × Cl × Ad) :=
  if (cI c7 1 a0) = 0 then
  F_68 c1 c6 c7 c8 c10 c13 d a0 a1 (cI c10 5 a1) >>= fun r2 =>
  some (sJ c7 2 a0 0) >>= fun c7_5 =>
  some (sI c7_5 3 a0 r2.1) >>= fun c7_6 =>
  some (sA c7_6 6 a0 (filf 6 0 (cA c7_6 6 a0))) >>= fun c7_7 =>
  some (sA c7_7 7 a0 (filf 150 0 (cA c7_7 7 a0))) >>= fun c7_8 =>
  G_63 c1 c8 c10 r2.2.2.1 r2.2.2.2 a0 a1 0 [r2.1, 0] [] [] r2.2.1 c7_8
  else
  some (c6, c7, c13, d)
set_option maxRecDepth 100000 in
set_option maxHeartbeats 4000000 in
/-- HeadCounts$Search.sumUp -/
theorem e_63 {D : Nat} {c0 c1 c2 c3 c4 c5 c6 c7 c8 c9 c10 c11 c12 c13 : Cl} {d : Ad} {h : UH} {a0 : Nat} {a1 : Nat} {r : (Cl × Cl × Cl × Ad)} (hD : 6 ≤ D) (hW : HW (mkw c0 c1 c2 c3 c4 c5 c6 c7 c8 c9 c10 c11 c12 c13) d h) (ha0 : aK d a0 = (0, 7, 0)) (ha1 : aK d a1 = (0, 10, 0)) (hF : F_63 c1 c6 c7 c8 c10 c13 d a0 a1 = some r) : ∃ q, EX D 63 [.ref a0, .ref a1] h q ∧ q.1 = none ∧ HX d (mkw c0 c1 c2 c3 c4 c5 r.1 r.2.1 c8 c9 c10 c11 c12 r.2.2.1) r.2.2.2 q.2 := by
  obtain ⟨D, rfl⟩ : ∃ E, D = E + 1 := ⟨D - 1, by omega⟩
  unfold F_63 at hF
  refine ex_in (kl := kl_63) (nL := 4) rfl (by decide +kernel) (Nat.le_of_ble_eq_true rfl) ?_
  obtain ⟨QQ, hQQ⟩ : ∃ QQ : UR → Prop, QQ = (fun q : UR => q.1 = none ∧ HX d (mkw c0 c1 c2 c3 c4 c5 r.1 r.2.1 c8 c9 c10 c11 c12 r.2.2.1) r.2.2.2 q.2) := ⟨_, rfl⟩
  rw [← hQQ]
  have hQ : ∀ h' : UH, HX d (mkw c0 c1 c2 c3 c4 c5 r.1 r.2.1 c8 c9 c10 c11 c12 r.2.2.1) r.2.2.2 h' → QQ (none, h') := fun h' p => by rw [hQQ]; exact ⟨rfl, p⟩
  clear hQQ
  show Ends (EX D) (u_at kl_63) (0, [some (.ref a0), some (.ref a1), none, none], [], h) QQ
  refine en_segs [(0, .aload_n 0, [])] (by decide +kernel) (y := (1, [some (.ref a0), some (.ref a1), none, none], [.ref a0], h)) rfl ?_
  refine en_get (by decide +kernel : u_at kl_63 1 = some (.getfield 22, [7, 1])) hW ha0 (by decide) rfl ?_
  refine en_if_eq (by decide +kernel : u_at kl_63 4 = some (.ifCond .eq 4, [8])) (fun b1 => ?_) (fun b1 => ?_)
  · replace hF := i_pos b1 hF
    refine en_segs [(8, .aload_n 0, []), (9, .aload_n 1, []), (10, .aload_n 1, [])] (by decide +kernel) (y := (11, [some (.ref a0), some (.ref a1), none, none], [.ref a1, .ref a1, .ref a0], h)) rfl ?_
    refine en_get (by decide +kernel : u_at kl_63 11 = some (.getfield 26, [10, 5])) hW ha1 (by decide) rfl ?_
    obtain ⟨r2, hr2, hF⟩ := ob_some hF
    refine en_vi (r := []) (by decide +kernel : u_at kl_63 14 = some (.invokevirtual 32, [68, 2, 7])) hW ha0 rfl rfl (Nat.le_of_ble_eq_true rfl) (e_68 (D := D) (by omega) hW ha0 ha1 hr2) (fun h q => ?_)
    obtain ⟨hW, X3⟩ := q
    have ha0 := X3.o ha0
    have ha1 := X3.o ha1
    have A4 := X3
    have hW : HW (mkw c0 c1 c2 c3 c4 c5 r2.2.1 c7 c8 c9 c10 c11 c12 r2.2.2.1) r2.2.2.2 h := hW
    refine en_segs [(17, .istore_n 2, []), (18, .aload_n 0, []), (19, .lconst 0, [])] (by decide +kernel) (y := (20, [some (.ref a0), some (.ref a1), some (.int r2.1), none], [.long 0, .ref a0], h)) rfl ?_
    obtain ⟨c7_5, hc7_5, hF⟩ := ob_some hF
    refine en_putJ (by decide +kernel : u_at kl_63 20 = some (.putfield 36, [7, 2, 1])) hW ha0 rfl (by decide) rfl (fun h hW => ?_)
    have hW : HW (mkw c0 c1 c2 c3 c4 c5 r2.2.1 c7_5 c8 c9 c10 c11 c12 r2.2.2.1) r2.2.2.2 h := by rw [← Option.some.inj hc7_5]; exact hW
    refine en_segs [(23, .aload_n 0, []), (24, .iload_n 2, [])] (by decide +kernel) (y := (25, [some (.ref a0), some (.ref a1), some (.int r2.1), none], [.int r2.1, .ref a0], h)) rfl ?_
    obtain ⟨c7_6, hc7_6, hF⟩ := ob_some hF
    refine en_putI (by decide +kernel : u_at kl_63 25 = some (.putfield 40, [7, 3, 0])) hW ha0 rfl (by decide) rfl (fun h hW => ?_)
    have hW : HW (mkw c0 c1 c2 c3 c4 c5 r2.2.1 c7_6 c8 c9 c10 c11 c12 r2.2.2.1) r2.2.2.2 h := by rw [← Option.some.inj hc7_6]; exact hW
    refine en_segs [(28, .aload_n 0, [])] (by decide +kernel) (y := (29, [some (.ref a0), some (.ref a1), some (.int r2.1), none], [.ref a0], h)) rfl ?_
    refine en_get (by decide +kernel : u_at kl_63 29 = some (.getfield 9, [7, 6])) hW ha0 (by decide) rfl ?_
    refine en_segs [(32, .iconst 0, [])] (by decide +kernel) (y := (33, [some (.ref a0), some (.ref a1), some (.int r2.1), none], [.int 0, .ref (aP r2.2.2.2 7 6 a0)], h)) rfl ?_
    obtain ⟨c7_7, hc7_7, hF⟩ := ob_some hF
    refine en_sv (r := []) (by decide +kernel : u_at kl_63 33 = some (.invokestatic 43, [304, 2])) rfl rfl (Nat.le_of_ble_eq_true rfl) (e_fillI (D := D) (v := 0) (by omega) hW ha0 rfl (by decide)) (fun h hW => ?_)
    have hW : HW (mkw c0 c1 c2 c3 c4 c5 r2.2.1 c7_7 c8 c9 c10 c11 c12 r2.2.2.1) r2.2.2.2 h := by rw [← Option.some.inj hc7_7]; exact hW
    refine en_segs [(36, .aload_n 0, [])] (by decide +kernel) (y := (37, [some (.ref a0), some (.ref a1), some (.int r2.1), none], [.ref a0], h)) rfl ?_
    refine en_get (by decide +kernel : u_at kl_63 37 = some (.getfield 15, [7, 7])) hW ha0 (by decide) rfl ?_
    refine en_segs [(40, .iconst 0, [])] (by decide +kernel) (y := (41, [some (.ref a0), some (.ref a1), some (.int r2.1), none], [.int 0, .ref (aP r2.2.2.2 7 7 a0)], h)) rfl ?_
    obtain ⟨c7_8, hc7_8, hF⟩ := ob_some hF
    refine en_sv (r := []) (by decide +kernel : u_at kl_63 41 = some (.invokestatic 43, [304, 2])) rfl rfl (Nat.le_of_ble_eq_true rfl) (e_fillI (D := D) (v := 0) (by omega) hW ha0 rfl (by decide)) (fun h hW => ?_)
    have hW : HW (mkw c0 c1 c2 c3 c4 c5 r2.2.1 c7_8 c8 c9 c10 c11 c12 r2.2.2.1) r2.2.2.2 h := by rw [← Option.some.inj hc7_8]; exact hW
    refine en_segs [(44, .iconst 0, []), (45, .istore_n 3, [])] (by decide +kernel) (y := (46, [some (.ref a0), some (.ref a1), some (.int r2.1), some (.int 0)], [], h)) rfl ?_
    refine en_fg (fg_k (fg_d (fg_k (fg_k fg_0)))) ?_
    exact (g_63 (D := D) hD ha0 ha1 _ _ _ _ _ _ _ hF) _ _ rfl rfl rfl rfl  _ hW _ (fun h' p => hQ h' ⟨p.1, A4.trans p.2⟩)
  · replace hF := i_neg b1 hF
    obtain rfl := Option.some.inj hF
    exact en_ret (by decide +kernel : u_at kl_63 7 = some (.return_, [])) rfl (hQ _ ⟨hW, Adx.rf⟩)
def F_67 (c1 : Cl) (c6 : Cl) (c7 : Cl) (c8 : Cl) (c10 : Cl) (c13 : Cl) (d : Ad) (a0 : Nat) (a1 : Nat) (p2 : Int32) : Option (Int32 × Cl × Cl × Ad) :=
  F_68 c1 c6 c7 c8 c10 c13 d a0 a1 p2 >>= fun r1 =>
  F_56 r1.2.1 r1.2.2.1 r1.2.2.2 (cR c7 0 a0) r1.1 >>= fun r5 =>
  ((if r1.1 ≤ 0 then
  some 0
  else
  some 1) : Option (Int32)) >>= fun (t6 : Int32) =>
  zb t6 >>= fun z8 => some (z8, r1.2.1, r5, r1.2.2.2)
set_option maxRecDepth 100000 in
set_option maxHeartbeats 4000000 in
/-- HeadCounts$Search.canBe -/
theorem e_67 {D : Nat} {c0 c1 c2 c3 c4 c5 c6 c7 c8 c9 c10 c11 c12 c13 : Cl} {d : Ad} {h : UH} {a0 : Nat} {a1 : Nat} {p2 : Int32} {r : (Int32 × Cl × Cl × Ad)} (hD : 6 ≤ D) (hW : HW (mkw c0 c1 c2 c3 c4 c5 c6 c7 c8 c9 c10 c11 c12 c13) d h) (ha0 : aK d a0 = (0, 7, 0)) (ha1 : aK d a1 = (0, 10, 0)) (hF : F_67 c1 c6 c7 c8 c10 c13 d a0 a1 p2 = some r) : ∃ q, EX D 67 [.ref a0, .ref a1, .int p2] h q ∧ q.1 = some (.int r.1) ∧ HX d (mkw c0 c1 c2 c3 c4 c5 r.2.1 c7 c8 c9 c10 c11 c12 r.2.2.1) r.2.2.2 q.2 := by
  obtain ⟨D, rfl⟩ : ∃ E, D = E + 1 := ⟨D - 1, by omega⟩
  unfold F_67 at hF
  refine ex_in (kl := kl_67) (nL := 4) rfl (by decide +kernel) (Nat.le_of_ble_eq_true rfl) ?_
  obtain ⟨QQ, hQQ⟩ : ∃ QQ : UR → Prop, QQ = (fun q : UR => q.1 = some (.int r.1) ∧ HX d (mkw c0 c1 c2 c3 c4 c5 r.2.1 c7 c8 c9 c10 c11 c12 r.2.2.1) r.2.2.2 q.2) := ⟨_, rfl⟩
  rw [← hQQ]
  have hQ : ∀ h' : UH, HX d (mkw c0 c1 c2 c3 c4 c5 r.2.1 c7 c8 c9 c10 c11 c12 r.2.2.1) r.2.2.2 h' → QQ (some (.int r.1), h') := fun h' p => by rw [hQQ]; exact ⟨rfl, p⟩
  clear hQQ
  show Ends (EX D) (u_at kl_67) (0, [some (.ref a0), some (.ref a1), some (.int p2), none], [], h) QQ
  refine en_segs [(0, .aload_n 0, []), (1, .aload_n 1, []), (2, .iload_n 2, [])] (by decide +kernel) (y := (3, [some (.ref a0), some (.ref a1), some (.int p2), none], [.int p2, .ref a1, .ref a0], h)) rfl ?_
  obtain ⟨r1, hr1, hF⟩ := ob_some hF
  refine en_vi (r := []) (by decide +kernel : u_at kl_67 3 = some (.invokevirtual 32, [68, 2, 7])) hW ha0 rfl rfl (Nat.le_of_ble_eq_true rfl) (e_68 (D := D) (by omega) hW ha0 ha1 hr1) (fun h q => ?_)
  obtain ⟨hW, X2⟩ := q
  have ha0 := X2.o ha0
  have ha1 := X2.o ha1
  have A3 := X2
  have hW : HW (mkw c0 c1 c2 c3 c4 c5 r1.2.1 c7 c8 c9 c10 c11 c12 r1.2.2.1) r1.2.2.2 h := hW
  refine en_segs [(6, .istore_n 3, []), (7, .aload_n 0, [])] (by decide +kernel) (y := (8, [some (.ref a0), some (.ref a1), some (.int p2), some (.int r1.1)], [.ref a0], h)) rfl ?_
  have k4 : aK r1.2.2.2 (cR c7 0 a0) = (0, 6, 0) := wf_obj hW ha0 (by decide) rfl
  refine en_get (by decide +kernel : u_at kl_67 8 = some (.getfield 18, [7, 0])) hW ha0 (by decide) rfl ?_
  refine en_segs [(11, .iload_n 3, [])] (by decide +kernel) (y := (12, [some (.ref a0), some (.ref a1), some (.int p2), some (.int r1.1)], [.int r1.1, .ref (cR c7 0 a0)], h)) rfl ?_
  obtain ⟨r5, hr5, hF⟩ := ob_some hF
  refine en_vv (r := []) (by decide +kernel : u_at kl_67 12 = some (.invokevirtual 62, [56, 1, 6])) hW k4 rfl rfl (Nat.le_of_ble_eq_true rfl) (e_56 (D := D) (by omega) hW k4 hr5) (fun h hW => ?_)
  have hW : HW (mkw c0 c1 c2 c3 c4 c5 r1.2.1 c7 c8 c9 c10 c11 c12 r5) r1.2.2.2 h := hW
  refine en_segs [(15, .iload_n 3, [])] (by decide +kernel) (y := (16, [some (.ref a0), some (.ref a1), some (.int p2), some (.int r1.1)], [.int r1.1], h)) rfl ?_
  obtain ⟨t6, hX, hK⟩ := ob_some hF
  have j7 : ∀ h : UH, HW (mkw c0 c1 c2 c3 c4 c5 r1.2.1 c7 c8 c9 c10 c11 c12 r5) r1.2.2.2 h → Ends (EX D) (u_at kl_67) (24, [some (.ref a0), some (.ref a1), some (.int p2), some (.int r1.1)], [.int t6], h) QQ := by
    intro h hW
    have hF := hK
    obtain ⟨z8, hz8, hF⟩ := ob_some hF
    obtain rfl := Option.some.inj hF
    exact en_retZ (by decide +kernel : u_at kl_67 24 = some (.ireturn, [1])) hz8 (hQ _ ⟨hW, A3⟩)
  have hF := hX
  refine en_if_le (by decide +kernel : u_at kl_67 16 = some (.ifCond .le 7, [23])) (fun b9 => ?_) (fun b9 => ?_)
  · replace hF := i_pos b9 hF
    refine en_segs [(23, .iconst 0, [])] (by decide +kernel) (y := (24, [some (.ref a0), some (.ref a1), some (.int p2), some (.int r1.1)], [.int 0], h)) rfl ?_
    obtain rfl := Option.some.inj hF
    exact j7 _ hW
  · replace hF := i_neg b9 hF
    refine en_segs [(19, .iconst 1, []), (20, .goto 4, [24])] (by decide +kernel) (y := (24, [some (.ref a0), some (.ref a1), some (.int p2), some (.int r1.1)], [.int 1], h)) rfl ?_
    obtain rfl := Option.some.inj hF
    exact j7 _ hW
def G_66 (c1 : Cl) (c7 : Cl) (c8 : Cl) (c10 : Cl) (a0 : Nat) (a1 : Nat) (lab : Nat) (xs : List Int32) (ys : List Int64) (zs : List Nat) (c6 : Cl) (c13 : Cl) (d : Ad) : Option (Int32 × Cl × Cl × Cl × Ad) := match lab, xs, ys, zs with
  | 0, [x2, x3, x4], [], [] =>
    if 12 ≤ x4 then
    some (x3 - 1, c6, c7, c13, d)
    else
    if (x3 - x2) ≤ 1 then
    some (x3 - 1, c6, c7, c13, d)
    else
    idv (x2 + x3) 2 >>= fun v7 =>
    F_67 c1 c6 c7 c8 c10 c13 d a0 a1 v7 >>= fun r8 =>
    ((if r8.1 = 0 then
    some (x2, v7)
    else
    some (v7, x3)) : Option (Int32 × Int32)) >>= fun (t11 : Int32 × Int32) =>
    G_66 c1 c7 c8 c10 a0 a1 0 [t11.1, t11.2, x4 + 1] [] [] r8.2.1 r8.2.2.1 r8.2.2.2
  | _, _, _, _ => none
partial_fixpoint
set_option maxRecDepth 100000 in
set_option maxHeartbeats 4000000 in
theorem g_66 {D : Nat} (hD : 7 ≤ D + 1) {c0 c1 c2 c3 c4 c5 c7 c8 c9 c10 c11 c12 : Cl} {a0 : Nat} {a1 : Nat} : ∀ (lab : Nat) (xs : List Int32) (ys : List Int64) (zs : List Nat) (c6 : Cl) (c13 : Cl) (d : Ad) (r : (Int32 × Cl × Cl × Cl × Ad)), G_66 c1 c7 c8 c10 a0 a1 lab xs ys zs c6 c13 d = some r →
    (∀ (x2 : Int32) (x3 : Int32) (x4 : Int32), lab = 0 → xs = [x2, x3, x4] → ys = [] → zs = [] → aK d a0 = (0, 7, 0) → aK d a1 = (0, 10, 0) → ∀ h : UH, HW (mkw c0 c1 c2 c3 c4 c5 c6 c7 c8 c9 c10 c11 c12 c13) d h → ∀ QQ : UR → Prop, (∀ h' : UH, HX d (mkw c0 c1 c2 c3 c4 c5 r.2.1 r.2.2.1 c8 c9 c10 c11 c12 r.2.2.2.1) r.2.2.2.2 h' → QQ (some (.int r.1), h')) → Ends (EX D) (u_at kl_66) (25, [some (.ref a0), some (.ref a1), some (.int x2), some (.int x3), some (.int x4), none], [], h) QQ) := by
  refine G_66.partial_correctness _ _ _ _ _ _ (motive := fun lab xs ys zs c6 c13 d r =>
    (∀ (x2 : Int32) (x3 : Int32) (x4 : Int32), lab = 0 → xs = [x2, x3, x4] → ys = [] → zs = [] → aK d a0 = (0, 7, 0) → aK d a1 = (0, 10, 0) → ∀ h : UH, HW (mkw c0 c1 c2 c3 c4 c5 c6 c7 c8 c9 c10 c11 c12 c13) d h → ∀ QQ : UR → Prop, (∀ h' : UH, HX d (mkw c0 c1 c2 c3 c4 c5 r.2.1 r.2.2.1 c8 c9 c10 c11 c12 r.2.2.2.1) r.2.2.2.2 h' → QQ (some (.int r.1), h')) → Ends (EX D) (u_at kl_66) (25, [some (.ref a0), some (.ref a1), some (.int x2), some (.int x3), some (.int x4), none], [], h) QQ)) ?_
  intro G ih lab xs ys zs c6 c13 d r hF
  · intro x2 x3 x4 e1 e2 e3 e4 ha0 ha1 h hW QQ hQ
    subst e1 e2 e3 e4
    refine en_segs [(25, .iload 4, []), (27, .bipush 12, [])] (by decide +kernel) (y := (29, [some (.ref a0), some (.ref a1), some (.int x2), some (.int x3), some (.int x4), none], [.int 12, .int x4], h)) rfl ?_
    refine en_ic_ge (by decide +kernel : u_at kl_66 29 = some (.if_icmp .ge 42, [71])) (fun b5 => ?_) (fun b5 => ?_)
    · replace hF := i_pos b5 hF
      refine en_segs [(71, .iload_n 3, []), (72, .iconst 1, []), (73, .isub, [])] (by decide +kernel) (y := (74, [some (.ref a0), some (.ref a1), some (.int x2), some (.int x3), some (.int x4), none], [.int (x3 - 1)], h)) rfl ?_
      obtain rfl := Option.some.inj hF
      exact en_ret (by decide +kernel : u_at kl_66 74 = some (.ireturn, [0])) rfl (hQ _ ⟨hW, Adx.rf⟩)
    · replace hF := i_neg b5 hF
      refine en_segs [(32, .iload_n 3, []), (33, .iload_n 2, []), (34, .isub, []), (35, .iconst 1, [])] (by decide +kernel) (y := (36, [some (.ref a0), some (.ref a1), some (.int x2), some (.int x3), some (.int x4), none], [.int 1, .int (x3 - x2)], h)) rfl ?_
      refine en_ic_le (by decide +kernel : u_at kl_66 36 = some (.if_icmp .le 35, [71])) (fun b6 => ?_) (fun b6 => ?_)
      · replace hF := i_pos b6 hF
        refine en_segs [(71, .iload_n 3, []), (72, .iconst 1, []), (73, .isub, [])] (by decide +kernel) (y := (74, [some (.ref a0), some (.ref a1), some (.int x2), some (.int x3), some (.int x4), none], [.int (x3 - 1)], h)) rfl ?_
        obtain rfl := Option.some.inj hF
        exact en_ret (by decide +kernel : u_at kl_66 74 = some (.ireturn, [0])) rfl (hQ _ ⟨hW, Adx.rf⟩)
      · replace hF := i_neg b6 hF
        refine en_segs [(39, .iload_n 2, []), (40, .iload_n 3, []), (41, .iadd, []), (42, .iconst 2, [])] (by decide +kernel) (y := (43, [some (.ref a0), some (.ref a1), some (.int x2), some (.int x3), some (.int x4), none], [.int 2, .int (x2 + x3)], h)) rfl ?_
        obtain ⟨v7, hv7, hF⟩ := ob_some hF
        refine en_idiv (by decide +kernel : u_at kl_66 43 = some (.idiv, [])) hv7 ?_
        refine en_segs [(44, .istore 5, []), (46, .aload_n 0, []), (47, .aload_n 1, []), (48, .iload 5, [])] (by decide +kernel) (y := (50, [some (.ref a0), some (.ref a1), some (.int x2), some (.int x3), some (.int x4), some (.int v7)], [.int v7, .ref a1, .ref a0], h)) rfl ?_
        obtain ⟨r8, hr8, hF⟩ := ob_some hF
        refine en_vi (r := []) (by decide +kernel : u_at kl_66 50 = some (.invokevirtual 102, [67, 2, 7])) hW ha0 rfl rfl (Nat.le_of_ble_eq_true rfl) (e_67 (D := D) (by omega) hW ha0 ha1 hr8) (fun h q => ?_)
        obtain ⟨hW, X9⟩ := q
        have ha0 := X9.o ha0
        have ha1 := X9.o ha1
        have A10 := X9
        have hW : HW (mkw c0 c1 c2 c3 c4 c5 r8.2.1 c7 c8 c9 c10 c11 c12 r8.2.2.1) r8.2.2.2 h := hW
        obtain ⟨t11, hX, hK⟩ := ob_some hF
        have j12 : ∀ h : UH, HW (mkw c0 c1 c2 c3 c4 c5 r8.2.1 c7 c8 c9 c10 c11 c12 r8.2.2.1) r8.2.2.2 h → Ends (EX D) (u_at kl_66) (65, [some (.ref a0), some (.ref a1), some (.int t11.1), some (.int t11.2), some (.int x4), some (.int v7)], [], h) QQ := by
          intro h hW
          have hF := hK
          refine en_segs [(65, .iinc 4 1, []), (68, .goto (-43), [25])] (by decide +kernel) (y := (25, [some (.ref a0), some (.ref a1), some (.int t11.1), some (.int t11.2), some (.int (x4 + 1)), some (.int v7)], [], h)) rfl ?_
          refine en_fg (fg_k (fg_k (fg_k (fg_k (fg_k (fg_d fg_0)))))) ?_
          exact (ih _ _ _ _ _ _ _ _ hF) _ _ _ rfl rfl rfl rfl  ha0 ha1 _ hW _ (fun h' p => hQ h' ⟨p.1, A10.trans p.2⟩)
        have hF := hX
        refine en_if_eq (by decide +kernel : u_at kl_66 53 = some (.ifCond .eq 9, [62])) (fun b13 => ?_) (fun b13 => ?_)
        · replace hF := i_pos b13 hF
          refine en_segs [(62, .iload 5, []), (64, .istore_n 3, [])] (by decide +kernel) (y := (65, [some (.ref a0), some (.ref a1), some (.int x2), some (.int v7), some (.int x4), some (.int v7)], [], h)) rfl ?_
          obtain rfl := Option.some.inj hF
          exact j12 _ hW
        · replace hF := i_neg b13 hF
          refine en_segs [(56, .iload 5, []), (58, .istore_n 2, []), (59, .goto 6, [65])] (by decide +kernel) (y := (65, [some (.ref a0), some (.ref a1), some (.int v7), some (.int x3), some (.int x4), some (.int v7)], [], h)) rfl ?_
          obtain rfl := Option.some.inj hF
          exact j12 _ hW
def F_66 (c1 : Cl) (c6 : Cl) (c7 : Cl) (c8 : Cl) (c10 : Cl) (c13 : Cl) (d : Ad) (a0 : Nat) (a1 : Nat) : Option (Int32 × Cl × Cl × Cl × Ad) :=
  F_63 c1 c6 c7 c8 c10 c13 d a0 a1 >>= fun r1 =>
  if (cI r1.2.1 3 a0) ≤ 0 then
  G_66 c1 r1.2.1 c8 c10 a0 a1 0 [0, cI c10 5 a1, 0] [] [] r1.1 r1.2.2.1 r1.2.2.2
  else
  some ((-2), r1.1, r1.2.1, r1.2.2.1, r1.2.2.2)
set_option maxRecDepth 100000 in
set_option maxHeartbeats 4000000 in
/-- HeadCounts$Search.firstNotSo -/
theorem e_66 {D : Nat} {c0 c1 c2 c3 c4 c5 c6 c7 c8 c9 c10 c11 c12 c13 : Cl} {d : Ad} {h : UH} {a0 : Nat} {a1 : Nat} {r : (Int32 × Cl × Cl × Cl × Ad)} (hD : 7 ≤ D) (hW : HW (mkw c0 c1 c2 c3 c4 c5 c6 c7 c8 c9 c10 c11 c12 c13) d h) (ha0 : aK d a0 = (0, 7, 0)) (ha1 : aK d a1 = (0, 10, 0)) (hF : F_66 c1 c6 c7 c8 c10 c13 d a0 a1 = some r) : ∃ q, EX D 66 [.ref a0, .ref a1] h q ∧ q.1 = some (.int r.1) ∧ HX d (mkw c0 c1 c2 c3 c4 c5 r.2.1 r.2.2.1 c8 c9 c10 c11 c12 r.2.2.2.1) r.2.2.2.2 q.2 := by
  obtain ⟨D, rfl⟩ : ∃ E, D = E + 1 := ⟨D - 1, by omega⟩
  unfold F_66 at hF
  refine ex_in (kl := kl_66) (nL := 6) rfl (by decide +kernel) (Nat.le_of_ble_eq_true rfl) ?_
  obtain ⟨QQ, hQQ⟩ : ∃ QQ : UR → Prop, QQ = (fun q : UR => q.1 = some (.int r.1) ∧ HX d (mkw c0 c1 c2 c3 c4 c5 r.2.1 r.2.2.1 c8 c9 c10 c11 c12 r.2.2.2.1) r.2.2.2.2 q.2) := ⟨_, rfl⟩
  rw [← hQQ]
  have hQ : ∀ h' : UH, HX d (mkw c0 c1 c2 c3 c4 c5 r.2.1 r.2.2.1 c8 c9 c10 c11 c12 r.2.2.2.1) r.2.2.2.2 h' → QQ (some (.int r.1), h') := fun h' p => by rw [hQQ]; exact ⟨rfl, p⟩
  clear hQQ
  show Ends (EX D) (u_at kl_66) (0, [some (.ref a0), some (.ref a1), none, none, none, none], [], h) QQ
  refine en_segs [(0, .aload_n 0, []), (1, .aload_n 1, [])] (by decide +kernel) (y := (2, [some (.ref a0), some (.ref a1), none, none, none, none], [.ref a1, .ref a0], h)) rfl ?_
  obtain ⟨r1, hr1, hF⟩ := ob_some hF
  refine en_vv (r := []) (by decide +kernel : u_at kl_66 2 = some (.invokevirtual 98, [63, 1, 7])) hW ha0 rfl rfl (Nat.le_of_ble_eq_true rfl) (e_63 (D := D) (by omega) hW ha0 ha1 hr1) (fun h q => ?_)
  obtain ⟨hW, X2⟩ := q
  have ha0 := X2.o ha0
  have ha1 := X2.o ha1
  have A3 := X2
  have hW : HW (mkw c0 c1 c2 c3 c4 c5 r1.1 r1.2.1 c8 c9 c10 c11 c12 r1.2.2.1) r1.2.2.2 h := hW
  refine en_segs [(5, .aload_n 0, [])] (by decide +kernel) (y := (6, [some (.ref a0), some (.ref a1), none, none, none, none], [.ref a0], h)) rfl ?_
  refine en_get (by decide +kernel : u_at kl_66 6 = some (.getfield 40, [7, 3])) hW ha0 (by decide) rfl ?_
  refine en_if_le (by decide +kernel : u_at kl_66 9 = some (.ifCond .le 6, [15])) (fun b4 => ?_) (fun b4 => ?_)
  · replace hF := i_pos b4 hF
    refine en_segs [(15, .iconst 0, []), (16, .istore_n 2, []), (17, .aload_n 1, [])] (by decide +kernel) (y := (18, [some (.ref a0), some (.ref a1), some (.int 0), none, none, none], [.ref a1], h)) rfl ?_
    refine en_get (by decide +kernel : u_at kl_66 18 = some (.getfield 26, [10, 5])) hW ha1 (by decide) rfl ?_
    refine en_segs [(21, .istore_n 3, []), (22, .iconst 0, []), (23, .istore 4, [])] (by decide +kernel) (y := (25, [some (.ref a0), some (.ref a1), some (.int 0), some (.int (cI c10 5 a1)), some (.int 0), none], [], h)) rfl ?_
    exact (g_66 (D := D) hD _ _ _ _ _ _ _ _ hF) _ _ _ rfl rfl rfl rfl  ha0 ha1 _ hW _ (fun h' p => hQ h' ⟨p.1, A3.trans p.2⟩)
  · replace hF := i_neg b4 hF
    refine en_segs [(12, .bipush (-2), [])] (by decide +kernel) (y := (14, [some (.ref a0), some (.ref a1), none, none, none, none], [.int (-2)], h)) rfl ?_
    obtain rfl := Option.some.inj hF
    exact en_ret (by decide +kernel : u_at kl_66 14 = some (.ireturn, [0])) rfl (hQ _ ⟨hW, A3⟩)
def G_75 (c6 : Cl) (c7 : Cl) (a0 : Nat) (lab : Nat) (xs : List Int32) (ys : List Int64) (zs : List Nat) : Option Int32 := match lab, xs, ys, zs with
  | 0, [x1, x2, x3], [], [] =>
    if (cI c6 1 (cR c7 0 a0)) ≤ x3 then
    ((if 25 ≤ x1 then
    some 0
    else
    if ((x2 >>> (x1 &&& 31)) &&& 1) = 1 then
    some 1
    else
    some 0) : Option (Int32)) >>= fun (t3 : Int32) =>
    zb t3 >>= fun z5 => some z5
    else
    ald (cA c6 5 (cR c7 0 a0)) 6 x3 >>= fun v8 =>
    G_75 c6 c7 a0 0 [x1, x2 ||| (x2 <<< (v8 &&& 31)), x3 + 1] [] []
  | _, _, _, _ => none
partial_fixpoint
set_option maxRecDepth 100000 in
set_option maxHeartbeats 4000000 in
theorem g_75 {D : Nat} (hD : 1 ≤ D + 1) {c0 c1 c2 c3 c4 c5 c6 c7 c8 c9 c10 c11 c12 c13 : Cl} {d : Ad} {a0 : Nat} (ha0 : aK d a0 = (0, 7, 0)) : ∀ (lab : Nat) (xs : List Int32) (ys : List Int64) (zs : List Nat) (r : Int32), G_75 c6 c7 a0 lab xs ys zs = some r →
    (∀ (x1 : Int32) (x2 : Int32) (x3 : Int32), lab = 0 → xs = [x1, x2, x3] → ys = [] → zs = [] → ∀ h : UH, HW (mkw c0 c1 c2 c3 c4 c5 c6 c7 c8 c9 c10 c11 c12 c13) d h → ∀ QQ : UR → Prop, QQ (some (.int r), h) → Ends (EX D) (u_at kl_75) (4, [some (.ref a0), some (.int x1), some (.int x2), some (.int x3)], [], h) QQ) := by
  refine G_75.partial_correctness _ _ _ (motive := fun lab xs ys zs r =>
    (∀ (x1 : Int32) (x2 : Int32) (x3 : Int32), lab = 0 → xs = [x1, x2, x3] → ys = [] → zs = [] → ∀ h : UH, HW (mkw c0 c1 c2 c3 c4 c5 c6 c7 c8 c9 c10 c11 c12 c13) d h → ∀ QQ : UR → Prop, QQ (some (.int r), h) → Ends (EX D) (u_at kl_75) (4, [some (.ref a0), some (.int x1), some (.int x2), some (.int x3)], [], h) QQ)) ?_
  intro G ih lab xs ys zs r hF
  · intro x1 x2 x3 e1 e2 e3 e4 h hW QQ hQ
    subst e1 e2 e3 e4
    refine en_segs [(4, .iload_n 3, []), (5, .aload_n 0, [])] (by decide +kernel) (y := (6, [some (.ref a0), some (.int x1), some (.int x2), some (.int x3)], [.ref a0, .int x3], h)) rfl ?_
    have k1 : aK d (cR c7 0 a0) = (0, 6, 0) := wf_obj hW ha0 (by decide) rfl
    refine en_get (by decide +kernel : u_at kl_75 6 = some (.getfield 18, [7, 0])) hW ha0 (by decide) rfl ?_
    refine en_get (by decide +kernel : u_at kl_75 9 = some (.getfield 71, [6, 1])) hW k1 (by decide) rfl ?_
    refine en_ic_ge (by decide +kernel : u_at kl_75 12 = some (.if_icmp .ge 23, [35])) (fun b2 => ?_) (fun b2 => ?_)
    · replace hF := i_pos b2 hF
      refine en_segs [(35, .iload_n 1, []), (36, .bipush 25, [])] (by decide +kernel) (y := (38, [some (.ref a0), some (.int x1), some (.int x2), some (.int x3)], [.int 25, .int x1], h)) rfl ?_
      obtain ⟨t3, hX, hK⟩ := ob_some hF
      have j4 : Ends (EX D) (u_at kl_75) (55, [some (.ref a0), some (.int x1), some (.int x2), some (.int x3)], [.int t3], h) QQ := by
        have hF := hK
        obtain ⟨z5, hz5, hF⟩ := ob_some hF
        obtain rfl := Option.some.inj hF
        exact en_retZ (by decide +kernel : u_at kl_75 55 = some (.ireturn, [1])) hz5 (hQ)
      have hF := hX
      refine en_ic_ge (by decide +kernel : u_at kl_75 38 = some (.if_icmp .ge 16, [54])) (fun b6 => ?_) (fun b6 => ?_)
      · replace hF := i_pos b6 hF
        refine en_segs [(54, .iconst 0, [])] (by decide +kernel) (y := (55, [some (.ref a0), some (.int x1), some (.int x2), some (.int x3)], [.int 0], h)) rfl ?_
        obtain rfl := Option.some.inj hF
        exact j4
      · replace hF := i_neg b6 hF
        refine en_segs [(41, .iload_n 2, []), (42, .iload_n 1, []), (43, .ishr, []), (44, .iconst 1, []), (45, .iand, []), (46, .iconst 1, [])] (by decide +kernel) (y := (47, [some (.ref a0), some (.int x1), some (.int x2), some (.int x3)], [.int 1, .int ((x2 >>> (x1 &&& 31)) &&& 1)], h)) rfl ?_
        refine en_ic_ne (by decide +kernel : u_at kl_75 47 = some (.if_icmp .ne 7, [54])) (fun b7 => ?_) (fun b7 => ?_)
        · replace hF := i_pos b7 hF
          refine en_segs [(50, .iconst 1, []), (51, .goto 4, [55])] (by decide +kernel) (y := (55, [some (.ref a0), some (.int x1), some (.int x2), some (.int x3)], [.int 1], h)) rfl ?_
          obtain rfl := Option.some.inj hF
          exact j4
        · replace hF := i_neg b7 hF
          refine en_segs [(54, .iconst 0, [])] (by decide +kernel) (y := (55, [some (.ref a0), some (.int x1), some (.int x2), some (.int x3)], [.int 0], h)) rfl ?_
          obtain rfl := Option.some.inj hF
          exact j4
    · replace hF := i_neg b2 hF
      refine en_segs [(15, .iload_n 2, []), (16, .iload_n 2, []), (17, .aload_n 0, [])] (by decide +kernel) (y := (18, [some (.ref a0), some (.int x1), some (.int x2), some (.int x3)], [.ref a0, .int x2, .int x2], h)) rfl ?_
      refine en_get (by decide +kernel : u_at kl_75 18 = some (.getfield 18, [7, 0])) hW ha0 (by decide) rfl ?_
      refine en_get (by decide +kernel : u_at kl_75 21 = some (.getfield 192, [6, 5])) hW k1 (by decide) rfl ?_
      refine en_segs [(24, .iload_n 3, [])] (by decide +kernel) (y := (25, [some (.ref a0), some (.int x1), some (.int x2), some (.int x3)], [.int x3, .ref (aP d 6 5 (cR c7 0 a0)), .int x2, .int x2], h)) rfl ?_
      obtain ⟨v8, hv8, hF⟩ := ob_some hF
      refine en_iald (by decide +kernel : u_at kl_75 25 = some (.iaload, [])) hW k1 rfl (by decide) hv8 ?_
      refine en_segs [(26, .ishl, []), (27, .ior, []), (28, .istore_n 2, []), (29, .iinc 3 1, []), (32, .goto (-28), [4])] (by decide +kernel) (y := (4, [some (.ref a0), some (.int x1), some (.int (x2 ||| (x2 <<< (v8 &&& 31)))), some (.int (x3 + 1))], [], h)) rfl ?_
      exact (ih _ _ _ _ _ hF) _ _ _ rfl rfl rfl rfl  _ hW _ hQ
def F_75 (c6 : Cl) (c7 : Cl) (a0 : Nat) (p1 : Int32) : Option Int32 :=
  G_75 c6 c7 a0 0 [p1, 1, 0] [] []
set_option maxRecDepth 100000 in
set_option maxHeartbeats 4000000 in
/-- HeadCounts$Search.isSumOfSome -/
theorem e_75 {D : Nat} {c0 c1 c2 c3 c4 c5 c6 c7 c8 c9 c10 c11 c12 c13 : Cl} {d : Ad} {h : UH} {a0 : Nat} {p1 : Int32} {r : Int32} (hD : 1 ≤ D) (hW : HW (mkw c0 c1 c2 c3 c4 c5 c6 c7 c8 c9 c10 c11 c12 c13) d h) (ha0 : aK d a0 = (0, 7, 0)) (hF : F_75 c6 c7 a0 p1 = some r) : ∃ q, EX D 75 [.ref a0, .int p1] h q ∧ q.1 = some (.int r) ∧ h = q.2 := by
  obtain ⟨D, rfl⟩ : ∃ E, D = E + 1 := ⟨D - 1, by omega⟩
  unfold F_75 at hF
  refine ex_in (kl := kl_75) (nL := 4) rfl (by decide +kernel) (Nat.le_of_ble_eq_true rfl) ?_
  obtain ⟨QQ, hQQ⟩ : ∃ QQ : UR → Prop, QQ = (fun q : UR => q.1 = some (.int r) ∧ h = q.2) := ⟨_, rfl⟩
  rw [← hQQ]
  have hQ : QQ (some (.int r), h) := by rw [hQQ]; exact ⟨rfl, rfl⟩
  clear hQQ
  show Ends (EX D) (u_at kl_75) (0, [some (.ref a0), some (.int p1), none, none], [], h) QQ
  refine en_segs [(0, .iconst 1, []), (1, .istore_n 2, []), (2, .iconst 0, []), (3, .istore_n 3, [])] (by decide +kernel) (y := (4, [some (.ref a0), some (.int p1), some (.int 1), some (.int 0)], [], h)) rfl ?_
  exact (g_75 (D := D) hD ha0 _ _ _ _ _ hF) _ _ _ rfl rfl rfl rfl  _ hW _ hQ
def F_78 (c6 : Cl) (c7 : Cl) (a0 : Nat) (p1 : Int32) (p2 : Int32) : Option Int32 :=
  ald (cA c6 11 (cR c7 0 a0)) 6 (cI c7 11 a0) >>= fun v2 =>
  ((if p2 = (cI c7 11 a0) then
  ald (cA c6 5 (cR c7 0 a0)) 6 p1 >>= fun v15 =>
  some (v2 + v15)
  else
  some v2) : Option (Int32)) >>= fun (t3 : Int32) =>
  ald (cA c6 10 (cR c7 0 a0)) 6 p1 >>= fun v5 =>
  ((if v5 = (cI c7 11 a0) then
  ald (cA c6 5 (cR c7 0 a0)) 6 p1 >>= fun v13 =>
  some (t3 - v13)
  else
  some t3) : Option (Int32)) >>= fun (t6 : Int32) =>
  ((if t6 = (cI c7 12 a0) then
  some 1
  else
  some 0) : Option (Int32)) >>= fun (t8 : Int32) =>
  zb t8 >>= fun z10 => some z10
set_option maxRecDepth 100000 in
set_option maxHeartbeats 4000000 in
/-- HeadCounts$Search.isSought -/
theorem e_78 {D : Nat} {c0 c1 c2 c3 c4 c5 c6 c7 c8 c9 c10 c11 c12 c13 : Cl} {d : Ad} {h : UH} {a0 : Nat} {p1 : Int32} {p2 : Int32} {r : Int32} (hD : 1 ≤ D) (hW : HW (mkw c0 c1 c2 c3 c4 c5 c6 c7 c8 c9 c10 c11 c12 c13) d h) (ha0 : aK d a0 = (0, 7, 0)) (hF : F_78 c6 c7 a0 p1 p2 = some r) : ∃ q, EX D 78 [.ref a0, .int p1, .int p2] h q ∧ q.1 = some (.int r) ∧ h = q.2 := by
  obtain ⟨D, rfl⟩ : ∃ E, D = E + 1 := ⟨D - 1, by omega⟩
  unfold F_78 at hF
  refine ex_in (kl := kl_78) (nL := 4) rfl (by decide +kernel) (Nat.le_of_ble_eq_true rfl) ?_
  obtain ⟨QQ, hQQ⟩ : ∃ QQ : UR → Prop, QQ = (fun q : UR => q.1 = some (.int r) ∧ h = q.2) := ⟨_, rfl⟩
  rw [← hQQ]
  have hQ : QQ (some (.int r), h) := by rw [hQQ]; exact ⟨rfl, rfl⟩
  clear hQQ
  show Ends (EX D) (u_at kl_78) (0, [some (.ref a0), some (.int p1), some (.int p2), none], [], h) QQ
  refine en_segs [(0, .aload_n 0, [])] (by decide +kernel) (y := (1, [some (.ref a0), some (.int p1), some (.int p2), none], [.ref a0], h)) rfl ?_
  have k1 : aK d (cR c7 0 a0) = (0, 6, 0) := wf_obj hW ha0 (by decide) rfl
  refine en_get (by decide +kernel : u_at kl_78 1 = some (.getfield 18, [7, 0])) hW ha0 (by decide) rfl ?_
  refine en_get (by decide +kernel : u_at kl_78 4 = some (.getfield 83, [6, 11])) hW k1 (by decide) rfl ?_
  refine en_segs [(7, .aload_n 0, [])] (by decide +kernel) (y := (8, [some (.ref a0), some (.int p1), some (.int p2), none], [.ref a0, .ref (aP d 6 11 (cR c7 0 a0))], h)) rfl ?_
  refine en_get (by decide +kernel : u_at kl_78 8 = some (.getfield 170, [7, 11])) hW ha0 (by decide) rfl ?_
  obtain ⟨v2, hv2, hF⟩ := ob_some hF
  refine en_iald (by decide +kernel : u_at kl_78 11 = some (.iaload, [])) hW k1 rfl (by decide) hv2 ?_
  refine en_segs [(12, .istore_n 3, []), (13, .iload_n 2, []), (14, .aload_n 0, [])] (by decide +kernel) (y := (15, [some (.ref a0), some (.int p1), some (.int p2), some (.int v2)], [.ref a0, .int p2], h)) rfl ?_
  refine en_get (by decide +kernel : u_at kl_78 15 = some (.getfield 170, [7, 11])) hW ha0 (by decide) rfl ?_
  obtain ⟨t3, hX, hK⟩ := ob_some hF
  have j4 : Ends (EX D) (u_at kl_78) (33, [some (.ref a0), some (.int p1), some (.int p2), some (.int t3)], [], h) QQ := by
    have hF := hK
    refine en_segs [(33, .aload_n 0, [])] (by decide +kernel) (y := (34, [some (.ref a0), some (.int p1), some (.int p2), some (.int t3)], [.ref a0], h)) rfl ?_
    refine en_get (by decide +kernel : u_at kl_78 34 = some (.getfield 18, [7, 0])) hW ha0 (by decide) rfl ?_
    refine en_get (by decide +kernel : u_at kl_78 37 = some (.getfield 77, [6, 10])) hW k1 (by decide) rfl ?_
    refine en_segs [(40, .iload_n 1, [])] (by decide +kernel) (y := (41, [some (.ref a0), some (.int p1), some (.int p2), some (.int t3)], [.int p1, .ref (aP d 6 10 (cR c7 0 a0))], h)) rfl ?_
    obtain ⟨v5, hv5, hF⟩ := ob_some hF
    refine en_iald (by decide +kernel : u_at kl_78 41 = some (.iaload, [])) hW k1 rfl (by decide) hv5 ?_
    refine en_segs [(42, .aload_n 0, [])] (by decide +kernel) (y := (43, [some (.ref a0), some (.int p1), some (.int p2), some (.int t3)], [.ref a0, .int v5], h)) rfl ?_
    refine en_get (by decide +kernel : u_at kl_78 43 = some (.getfield 170, [7, 11])) hW ha0 (by decide) rfl ?_
    obtain ⟨t6, hX, hK⟩ := ob_some hF
    have j7 : Ends (EX D) (u_at kl_78) (61, [some (.ref a0), some (.int p1), some (.int p2), some (.int t6)], [], h) QQ := by
      have hF := hK
      refine en_segs [(61, .iload_n 3, []), (62, .aload_n 0, [])] (by decide +kernel) (y := (63, [some (.ref a0), some (.int p1), some (.int p2), some (.int t6)], [.ref a0, .int t6], h)) rfl ?_
      refine en_get (by decide +kernel : u_at kl_78 63 = some (.getfield 173, [7, 12])) hW ha0 (by decide) rfl ?_
      obtain ⟨t8, hX, hK⟩ := ob_some hF
      have j9 : Ends (EX D) (u_at kl_78) (74, [some (.ref a0), some (.int p1), some (.int p2), some (.int t6)], [.int t8], h) QQ := by
        have hF := hK
        obtain ⟨z10, hz10, hF⟩ := ob_some hF
        obtain rfl := Option.some.inj hF
        exact en_retZ (by decide +kernel : u_at kl_78 74 = some (.ireturn, [1])) hz10 (hQ)
      have hF := hX
      refine en_ic_ne (by decide +kernel : u_at kl_78 66 = some (.if_icmp .ne 7, [73])) (fun b11 => ?_) (fun b11 => ?_)
      · replace hF := i_pos b11 hF
        refine en_segs [(69, .iconst 1, []), (70, .goto 4, [74])] (by decide +kernel) (y := (74, [some (.ref a0), some (.int p1), some (.int p2), some (.int t6)], [.int 1], h)) rfl ?_
        obtain rfl := Option.some.inj hF
        exact j9
      · replace hF := i_neg b11 hF
        refine en_segs [(73, .iconst 0, [])] (by decide +kernel) (y := (74, [some (.ref a0), some (.int p1), some (.int p2), some (.int t6)], [.int 0], h)) rfl ?_
        obtain rfl := Option.some.inj hF
        exact j9
    have hF := hX
    refine en_ic_ne (by decide +kernel : u_at kl_78 46 = some (.if_icmp .ne 15, [61])) (fun b12 => ?_) (fun b12 => ?_)
    · replace hF := i_pos b12 hF
      refine en_segs [(49, .iload_n 3, []), (50, .aload_n 0, [])] (by decide +kernel) (y := (51, [some (.ref a0), some (.int p1), some (.int p2), some (.int t3)], [.ref a0, .int t3], h)) rfl ?_
      refine en_get (by decide +kernel : u_at kl_78 51 = some (.getfield 18, [7, 0])) hW ha0 (by decide) rfl ?_
      refine en_get (by decide +kernel : u_at kl_78 54 = some (.getfield 192, [6, 5])) hW k1 (by decide) rfl ?_
      refine en_segs [(57, .iload_n 1, [])] (by decide +kernel) (y := (58, [some (.ref a0), some (.int p1), some (.int p2), some (.int t3)], [.int p1, .ref (aP d 6 5 (cR c7 0 a0)), .int t3], h)) rfl ?_
      obtain ⟨v13, hv13, hF⟩ := ob_some hF
      refine en_iald (by decide +kernel : u_at kl_78 58 = some (.iaload, [])) hW k1 rfl (by decide) hv13 ?_
      refine en_segs [(59, .isub, []), (60, .istore_n 3, [])] (by decide +kernel) (y := (61, [some (.ref a0), some (.int p1), some (.int p2), some (.int (t3 - v13))], [], h)) rfl ?_
      obtain rfl := Option.some.inj hF
      exact j7
    · replace hF := i_neg b12 hF
      obtain rfl := Option.some.inj hF
      exact j7
  have hF := hX
  refine en_ic_ne (by decide +kernel : u_at kl_78 18 = some (.if_icmp .ne 15, [33])) (fun b14 => ?_) (fun b14 => ?_)
  · replace hF := i_pos b14 hF
    refine en_segs [(21, .iload_n 3, []), (22, .aload_n 0, [])] (by decide +kernel) (y := (23, [some (.ref a0), some (.int p1), some (.int p2), some (.int v2)], [.ref a0, .int v2], h)) rfl ?_
    refine en_get (by decide +kernel : u_at kl_78 23 = some (.getfield 18, [7, 0])) hW ha0 (by decide) rfl ?_
    refine en_get (by decide +kernel : u_at kl_78 26 = some (.getfield 192, [6, 5])) hW k1 (by decide) rfl ?_
    refine en_segs [(29, .iload_n 1, [])] (by decide +kernel) (y := (30, [some (.ref a0), some (.int p1), some (.int p2), some (.int v2)], [.int p1, .ref (aP d 6 5 (cR c7 0 a0)), .int v2], h)) rfl ?_
    obtain ⟨v15, hv15, hF⟩ := ob_some hF
    refine en_iald (by decide +kernel : u_at kl_78 30 = some (.iaload, [])) hW k1 rfl (by decide) hv15 ?_
    refine en_segs [(31, .iadd, []), (32, .istore_n 3, [])] (by decide +kernel) (y := (33, [some (.ref a0), some (.int p1), some (.int p2), some (.int (v2 + v15))], [], h)) rfl ?_
    obtain rfl := Option.some.inj hF
    exact j4
  · replace hF := i_neg b14 hF
    obtain rfl := Option.some.inj hF
    exact j4
def F_79 (c6 : Cl) (c7 : Cl) (a0 : Nat) (p1 : Int32) (p2 : Int64) : Option Cl :=
  some (sI c7 8 a0 p1) >>= fun c7_1 =>
  idv (((p2 : Int64).toInt32) - 2) 6 >>= fun v3 =>
  ald (cA c6 4 (cR c7_1 0 a0)) 6 v3 >>= fun v4 =>
  some (sI c7_1 9 a0 v4) >>= fun c7_5 =>
  irm (((p2 : Int64).toInt32) - 2) 6 >>= fun v6 =>
  some (sI c7_5 10 a0 v6) >>= fun c7_7 =>
  some c7_7
set_option maxRecDepth 100000 in
set_option maxHeartbeats 4000000 in
/-- HeadCounts$Search.arrive -/
theorem e_79 {D : Nat} {c0 c1 c2 c3 c4 c5 c6 c7 c8 c9 c10 c11 c12 c13 : Cl} {d : Ad} {h : UH} {a0 : Nat} {p1 : Int32} {p2 : Int64} {r : Cl} (hD : 1 ≤ D) (hW : HW (mkw c0 c1 c2 c3 c4 c5 c6 c7 c8 c9 c10 c11 c12 c13) d h) (ha0 : aK d a0 = (0, 7, 0)) (hF : F_79 c6 c7 a0 p1 p2 = some r) : ∃ q, EX D 79 [.ref a0, .int p1, .long p2] h q ∧ q.1 = none ∧ HW (mkw c0 c1 c2 c3 c4 c5 c6 r c8 c9 c10 c11 c12 c13) d q.2 := by
  obtain ⟨D, rfl⟩ : ∃ E, D = E + 1 := ⟨D - 1, by omega⟩
  unfold F_79 at hF
  refine ex_in (kl := kl_79) (nL := 5) rfl (by decide +kernel) (Nat.le_of_ble_eq_true rfl) ?_
  obtain ⟨QQ, hQQ⟩ : ∃ QQ : UR → Prop, QQ = (fun q : UR => q.1 = none ∧ HW (mkw c0 c1 c2 c3 c4 c5 c6 r c8 c9 c10 c11 c12 c13) d q.2) := ⟨_, rfl⟩
  rw [← hQQ]
  have hQ : ∀ h' : UH, HW (mkw c0 c1 c2 c3 c4 c5 c6 r c8 c9 c10 c11 c12 c13) d h' → QQ (none, h') := fun h' p => by rw [hQQ]; exact ⟨rfl, p⟩
  clear hQQ
  show Ends (EX D) (u_at kl_79) (0, [some (.ref a0), some (.int p1), some (.long p2), none, none], [], h) QQ
  refine en_segs [(0, .lload_n 2, []), (1, .l2i, []), (2, .iconst 2, []), (3, .isub, []), (4, .istore 4, []), (6, .aload_n 0, []), (7, .iload_n 1, [])] (by decide +kernel) (y := (8, [some (.ref a0), some (.int p1), some (.long p2), none, some (.int (((p2 : Int64).toInt32) - 2))], [.int p1, .ref a0], h)) rfl ?_
  obtain ⟨c7_1, hc7_1, hF⟩ := ob_some hF
  refine en_putI (by decide +kernel : u_at kl_79 8 = some (.putfield 176, [7, 8, 0])) hW ha0 rfl (by decide) rfl (fun h hW => ?_)
  have hW : HW (mkw c0 c1 c2 c3 c4 c5 c6 c7_1 c8 c9 c10 c11 c12 c13) d h := by rw [← Option.some.inj hc7_1]; exact hW
  refine en_segs [(11, .aload_n 0, []), (12, .aload_n 0, [])] (by decide +kernel) (y := (13, [some (.ref a0), some (.int p1), some (.long p2), none, some (.int (((p2 : Int64).toInt32) - 2))], [.ref a0, .ref a0], h)) rfl ?_
  have k2 : aK d (cR c7_1 0 a0) = (0, 6, 0) := wf_obj hW ha0 (by decide) rfl
  refine en_get (by decide +kernel : u_at kl_79 13 = some (.getfield 18, [7, 0])) hW ha0 (by decide) rfl ?_
  refine en_get (by decide +kernel : u_at kl_79 16 = some (.getfield 74, [6, 4])) hW k2 (by decide) rfl ?_
  refine en_segs [(19, .iload 4, []), (21, .bipush 6, [])] (by decide +kernel) (y := (23, [some (.ref a0), some (.int p1), some (.long p2), none, some (.int (((p2 : Int64).toInt32) - 2))], [.int 6, .int (((p2 : Int64).toInt32) - 2), .ref (aP d 6 4 (cR c7_1 0 a0)), .ref a0], h)) rfl ?_
  obtain ⟨v3, hv3, hF⟩ := ob_some hF
  refine en_idiv (by decide +kernel : u_at kl_79 23 = some (.idiv, [])) hv3 ?_
  obtain ⟨v4, hv4, hF⟩ := ob_some hF
  refine en_iald (by decide +kernel : u_at kl_79 24 = some (.iaload, [])) hW k2 rfl (by decide) hv4 ?_
  obtain ⟨c7_5, hc7_5, hF⟩ := ob_some hF
  refine en_putI (by decide +kernel : u_at kl_79 25 = some (.putfield 179, [7, 9, 0])) hW ha0 rfl (by decide) rfl (fun h hW => ?_)
  have hW : HW (mkw c0 c1 c2 c3 c4 c5 c6 c7_5 c8 c9 c10 c11 c12 c13) d h := by rw [← Option.some.inj hc7_5]; exact hW
  refine en_segs [(28, .aload_n 0, []), (29, .iload 4, []), (31, .bipush 6, [])] (by decide +kernel) (y := (33, [some (.ref a0), some (.int p1), some (.long p2), none, some (.int (((p2 : Int64).toInt32) - 2))], [.int 6, .int (((p2 : Int64).toInt32) - 2), .ref a0], h)) rfl ?_
  obtain ⟨v6, hv6, hF⟩ := ob_some hF
  refine en_irem (by decide +kernel : u_at kl_79 33 = some (.irem, [])) hv6 ?_
  obtain ⟨c7_7, hc7_7, hF⟩ := ob_some hF
  refine en_putI (by decide +kernel : u_at kl_79 34 = some (.putfield 182, [7, 10, 0])) hW ha0 rfl (by decide) rfl (fun h hW => ?_)
  have hW : HW (mkw c0 c1 c2 c3 c4 c5 c6 c7_7 c8 c9 c10 c11 c12 c13) d h := by rw [← Option.some.inj hc7_7]; exact hW
  obtain rfl := Option.some.inj hF
  exact en_ret (by decide +kernel : u_at kl_79 37 = some (.return_, [])) rfl (hQ _ hW)
def G_77 (c6 : Cl) (c7 : Cl) (d : Ad) (a0 : Nat) (lab : Nat) (xs : List Int32) (ys : List Int64) (zs : List Nat) (c13 : Cl) : Option (Int32 × Cl × Cl × Cl) := match lab, xs, ys, zs with
  | 0, [x1, x2, x4, x5], [], [] =>
    if (cI c6 1 (cR c7 0 a0)) ≤ x5 then
    some (x4, c6, c7, c13)
    else
    G_77 c6 c7 d a0 1 [x1, x2, x4, x5, 0] [] [] c13
  | 1, [x1, x2, x4, x5, x6], [], [] =>
    if (cI c6 0 (cR c7 0 a0)) ≤ x6 then
    G_77 c6 c7 d a0 0 [x1, x2, x4, x5 + 1] [] [] c13
    else
    ald (cA c6 10 (cR c7 0 a0)) 6 x5 >>= fun v7 =>
    ald (cA c6 6 (cR c7 0 a0)) 6 x5 >>= fun v8 =>
    F_60 c6 (cR c7 0 a0) x5 x6 >>= fun r9 =>
    if r9 = 0 then
    G_77 c6 c7 d a0 1 [x1, x2, x4, x5, x6 + 1] [] [] c13
    else
    F_309 c6 c13 d (cR c7 0 a0) (x1 + ((x6 - v7) * v8)) >>= fun r11 =>
    if r11 = 0 then
    ((if x2 = 1 then
    some (((2 + (x5 * 6)) + x6 : Int32).toInt64)
    else
    ldl (cB c13 0 (cR c6 12 (cR c7 0 a0))) (aN d (cR c6 12 (cR c7 0 a0))) x1 >>= fun v21 =>
    some v21) : Option (Int64)) >>= fun (t13 : Int64) =>
    F_78 c6 c7 a0 x5 x6 >>= fun r15 =>
    if r15 = 0 then
    F_307 c6 c13 d (cR c7 0 a0) (x1 + ((x6 - v7) * v8)) t13 x4 >>= fun r17 =>
    G_77 c6 c7 d a0 1 [x1, x2, r17.1, x5, x6 + 1] [] [] r17.2
    else
    F_79 c6 c7 a0 x2 t13 >>= fun r18 =>
    some (x4, c6, r18, c13)
    else
    G_77 c6 c7 d a0 1 [x1, x2, x4, x5, x6 + 1] [] [] c13
  | _, _, _, _ => none
partial_fixpoint
set_option maxRecDepth 100000 in
set_option maxHeartbeats 4000000 in
theorem g_77 {D : Nat} (hD : 3 ≤ D + 1) {c0 c1 c2 c3 c4 c5 c6 c7 c8 c9 c10 c11 c12 : Cl} {d : Ad} {a0 : Nat} (ha0 : aK d a0 = (0, 7, 0)) : ∀ (lab : Nat) (xs : List Int32) (ys : List Int64) (zs : List Nat) (c13 : Cl) (r : (Int32 × Cl × Cl × Cl)), G_77 c6 c7 d a0 lab xs ys zs c13 = some r →
    (∀ (x1 : Int32) (x2 : Int32) (x4 : Int32) (x5 : Int32), lab = 0 → xs = [x1, x2, x4, x5] → ys = [] → zs = [] → ∀ h : UH, HW (mkw c0 c1 c2 c3 c4 c5 c6 c7 c8 c9 c10 c11 c12 c13) d h → ∀ QQ : UR → Prop, (∀ h' : UH, HW (mkw c0 c1 c2 c3 c4 c5 r.2.1 r.2.2.1 c8 c9 c10 c11 c12 r.2.2.2) d h' → QQ (some (.int r.1), h')) → Ends (EX D) (u_at kl_77) (14, [some (.ref a0), some (.int x1), some (.int x2), none, some (.int x4), some (.int x5), none, none, none, none], [], h) QQ) ∧
    (∀ (x1 : Int32) (x2 : Int32) (x4 : Int32) (x5 : Int32) (x6 : Int32), lab = 1 → xs = [x1, x2, x4, x5, x6] → ys = [] → zs = [] → ∀ h : UH, HW (mkw c0 c1 c2 c3 c4 c5 c6 c7 c8 c9 c10 c11 c12 c13) d h → ∀ QQ : UR → Prop, (∀ h' : UH, HW (mkw c0 c1 c2 c3 c4 c5 r.2.1 r.2.2.1 c8 c9 c10 c11 c12 r.2.2.2) d h' → QQ (some (.int r.1), h')) → Ends (EX D) (u_at kl_77) (29, [some (.ref a0), some (.int x1), some (.int x2), none, some (.int x4), some (.int x5), some (.int x6), none, none, none], [], h) QQ) := by
  refine G_77.partial_correctness _ _ _ _ (motive := fun lab xs ys zs c13 r =>
    (∀ (x1 : Int32) (x2 : Int32) (x4 : Int32) (x5 : Int32), lab = 0 → xs = [x1, x2, x4, x5] → ys = [] → zs = [] → ∀ h : UH, HW (mkw c0 c1 c2 c3 c4 c5 c6 c7 c8 c9 c10 c11 c12 c13) d h → ∀ QQ : UR → Prop, (∀ h' : UH, HW (mkw c0 c1 c2 c3 c4 c5 r.2.1 r.2.2.1 c8 c9 c10 c11 c12 r.2.2.2) d h' → QQ (some (.int r.1), h')) → Ends (EX D) (u_at kl_77) (14, [some (.ref a0), some (.int x1), some (.int x2), none, some (.int x4), some (.int x5), none, none, none, none], [], h) QQ) ∧
    (∀ (x1 : Int32) (x2 : Int32) (x4 : Int32) (x5 : Int32) (x6 : Int32), lab = 1 → xs = [x1, x2, x4, x5, x6] → ys = [] → zs = [] → ∀ h : UH, HW (mkw c0 c1 c2 c3 c4 c5 c6 c7 c8 c9 c10 c11 c12 c13) d h → ∀ QQ : UR → Prop, (∀ h' : UH, HW (mkw c0 c1 c2 c3 c4 c5 r.2.1 r.2.2.1 c8 c9 c10 c11 c12 r.2.2.2) d h' → QQ (some (.int r.1), h')) → Ends (EX D) (u_at kl_77) (29, [some (.ref a0), some (.int x1), some (.int x2), none, some (.int x4), some (.int x5), some (.int x6), none, none, none], [], h) QQ)) ?_
  intro G ih lab xs ys zs c13 r hF
  refine ⟨?_, ?_⟩
  · intro x1 x2 x4 x5 e1 e2 e3 e4 h hW QQ hQ
    subst e1 e2 e3 e4
    refine en_segs [(14, .iload 5, []), (16, .aload_n 0, [])] (by decide +kernel) (y := (17, [some (.ref a0), some (.int x1), some (.int x2), none, some (.int x4), some (.int x5), none, none, none, none], [.ref a0, .int x5], h)) rfl ?_
    have k3 : aK d (cR c7 0 a0) = (0, 6, 0) := wf_obj hW ha0 (by decide) rfl
    refine en_get (by decide +kernel : u_at kl_77 17 = some (.getfield 18, [7, 0])) hW ha0 (by decide) rfl ?_
    refine en_get (by decide +kernel : u_at kl_77 20 = some (.getfield 71, [6, 1])) hW k3 (by decide) rfl ?_
    refine en_ic_ge (by decide +kernel : u_at kl_77 23 = some (.if_icmp .ge 150, [173])) (fun b4 => ?_) (fun b4 => ?_)
    · replace hF := i_pos b4 hF
      refine en_segs [(173, .iload 4, [])] (by decide +kernel) (y := (175, [some (.ref a0), some (.int x1), some (.int x2), none, some (.int x4), some (.int x5), none, none, none, none], [.int x4], h)) rfl ?_
      obtain rfl := Option.some.inj hF
      exact en_ret (by decide +kernel : u_at kl_77 175 = some (.ireturn, [0])) rfl (hQ _ hW)
    · replace hF := i_neg b4 hF
      refine en_segs [(26, .iconst 0, []), (27, .istore 6, [])] (by decide +kernel) (y := (29, [some (.ref a0), some (.int x1), some (.int x2), none, some (.int x4), some (.int x5), some (.int 0), none, none, none], [], h)) rfl ?_
      exact (ih _ _ _ _ _ _ hF).2 _ _ _ _ _ rfl rfl rfl rfl  _ hW _ hQ
  · intro x1 x2 x4 x5 x6 e1 e2 e3 e4 h hW QQ hQ
    subst e1 e2 e3 e4
    refine en_segs [(29, .iload 6, []), (31, .aload_n 0, [])] (by decide +kernel) (y := (32, [some (.ref a0), some (.int x1), some (.int x2), none, some (.int x4), some (.int x5), some (.int x6), none, none, none], [.ref a0, .int x6], h)) rfl ?_
    have k5 : aK d (cR c7 0 a0) = (0, 6, 0) := wf_obj hW ha0 (by decide) rfl
    refine en_get (by decide +kernel : u_at kl_77 32 = some (.getfield 18, [7, 0])) hW ha0 (by decide) rfl ?_
    refine en_get (by decide +kernel : u_at kl_77 35 = some (.getfield 80, [6, 0])) hW k5 (by decide) rfl ?_
    refine en_ic_ge (by decide +kernel : u_at kl_77 38 = some (.if_icmp .ge 129, [167])) (fun b6 => ?_) (fun b6 => ?_)
    · replace hF := i_pos b6 hF
      refine en_segs [(167, .iinc 5 1, []), (170, .goto (-156), [14])] (by decide +kernel) (y := (14, [some (.ref a0), some (.int x1), some (.int x2), none, some (.int x4), some (.int (x5 + 1)), some (.int x6), none, none, none], [], h)) rfl ?_
      refine en_fg (fg_k (fg_k (fg_k (fg_k (fg_k (fg_k (fg_d (fg_k (fg_k (fg_k fg_0)))))))))) ?_
      exact (ih _ _ _ _ _ _ hF).1 _ _ _ _ rfl rfl rfl rfl  _ hW _ hQ
    · replace hF := i_neg b6 hF
      refine en_segs [(41, .iload_n 1, []), (42, .iload 6, []), (44, .aload_n 0, [])] (by decide +kernel) (y := (45, [some (.ref a0), some (.int x1), some (.int x2), none, some (.int x4), some (.int x5), some (.int x6), none, none, none], [.ref a0, .int x6, .int x1], h)) rfl ?_
      refine en_get (by decide +kernel : u_at kl_77 45 = some (.getfield 18, [7, 0])) hW ha0 (by decide) rfl ?_
      refine en_get (by decide +kernel : u_at kl_77 48 = some (.getfield 77, [6, 10])) hW k5 (by decide) rfl ?_
      refine en_segs [(51, .iload 5, [])] (by decide +kernel) (y := (53, [some (.ref a0), some (.int x1), some (.int x2), none, some (.int x4), some (.int x5), some (.int x6), none, none, none], [.int x5, .ref (aP d 6 10 (cR c7 0 a0)), .int x6, .int x1], h)) rfl ?_
      obtain ⟨v7, hv7, hF⟩ := ob_some hF
      refine en_iald (by decide +kernel : u_at kl_77 53 = some (.iaload, [])) hW k5 rfl (by decide) hv7 ?_
      refine en_segs [(54, .isub, []), (55, .aload_n 0, [])] (by decide +kernel) (y := (56, [some (.ref a0), some (.int x1), some (.int x2), none, some (.int x4), some (.int x5), some (.int x6), none, none, none], [.ref a0, .int (x6 - v7), .int x1], h)) rfl ?_
      refine en_get (by decide +kernel : u_at kl_77 56 = some (.getfield 18, [7, 0])) hW ha0 (by decide) rfl ?_
      refine en_get (by decide +kernel : u_at kl_77 59 = some (.getfield 161, [6, 6])) hW k5 (by decide) rfl ?_
      refine en_segs [(62, .iload 5, [])] (by decide +kernel) (y := (64, [some (.ref a0), some (.int x1), some (.int x2), none, some (.int x4), some (.int x5), some (.int x6), none, none, none], [.int x5, .ref (aP d 6 6 (cR c7 0 a0)), .int (x6 - v7), .int x1], h)) rfl ?_
      obtain ⟨v8, hv8, hF⟩ := ob_some hF
      refine en_iald (by decide +kernel : u_at kl_77 64 = some (.iaload, [])) hW k5 rfl (by decide) hv8 ?_
      refine en_segs [(65, .imul, []), (66, .iadd, []), (67, .istore 7, []), (69, .aload_n 0, [])] (by decide +kernel) (y := (70, [some (.ref a0), some (.int x1), some (.int x2), none, some (.int x4), some (.int x5), some (.int x6), some (.int (x1 + ((x6 - v7) * v8))), none, none], [.ref a0], h)) rfl ?_
      refine en_get (by decide +kernel : u_at kl_77 70 = some (.getfield 18, [7, 0])) hW ha0 (by decide) rfl ?_
      refine en_segs [(73, .iload 5, []), (75, .iload 6, [])] (by decide +kernel) (y := (77, [some (.ref a0), some (.int x1), some (.int x2), none, some (.int x4), some (.int x5), some (.int x6), some (.int (x1 + ((x6 - v7) * v8))), none, none], [.int x6, .int x5, .ref (cR c7 0 a0)], h)) rfl ?_
      obtain ⟨r9, hr9, hF⟩ := ob_some hF
      refine en_vi (r := []) (by decide +kernel : u_at kl_77 77 = some (.invokevirtual 157, [60, 2, 6])) hW k5 rfl rfl (Nat.le_of_ble_eq_true rfl) (e_60 (D := D) (by omega) hW k5 hr9) (fun h' q => ?_)
      subst q
      refine en_if_eq (by decide +kernel : u_at kl_77 80 = some (.ifCond .eq 81, [161])) (fun b10 => ?_) (fun b10 => ?_)
      · replace hF := i_pos b10 hF
        refine en_segs [(161, .iinc 6 1, []), (164, .goto (-135), [29])] (by decide +kernel) (y := (29, [some (.ref a0), some (.int x1), some (.int x2), none, some (.int x4), some (.int x5), some (.int (x6 + 1)), some (.int (x1 + ((x6 - v7) * v8))), none, none], [], h)) rfl ?_
        refine en_fg (fg_k (fg_k (fg_k (fg_k (fg_k (fg_k (fg_k (fg_d (fg_k (fg_k fg_0)))))))))) ?_
        exact (ih _ _ _ _ _ _ hF).2 _ _ _ _ _ rfl rfl rfl rfl  _ hW _ hQ
      · replace hF := i_neg b10 hF
        refine en_segs [(83, .aload_n 0, [])] (by decide +kernel) (y := (84, [some (.ref a0), some (.int x1), some (.int x2), none, some (.int x4), some (.int x5), some (.int x6), some (.int (x1 + ((x6 - v7) * v8))), none, none], [.ref a0], h)) rfl ?_
        refine en_get (by decide +kernel : u_at kl_77 84 = some (.getfield 18, [7, 0])) hW ha0 (by decide) rfl ?_
        refine en_segs [(87, .iload 7, [])] (by decide +kernel) (y := (89, [some (.ref a0), some (.int x1), some (.int x2), none, some (.int x4), some (.int x5), some (.int x6), some (.int (x1 + ((x6 - v7) * v8))), none, none], [.int (x1 + ((x6 - v7) * v8)), .ref (cR c7 0 a0)], h)) rfl ?_
        obtain ⟨r11, hr11, hF⟩ := ob_some hF
        refine en_vi (r := []) (by decide +kernel : u_at kl_77 89 = some (.invokevirtual 202, [309, 1, 6])) hW k5 rfl rfl (Nat.le_of_ble_eq_true rfl) (e_309 (D := D) (by omega) hW k5 hr11) (fun h' q => ?_)
        subst q
        refine en_if_ne (by decide +kernel : u_at kl_77 92 = some (.ifCond .ne 69, [161])) (fun b12 => ?_) (fun b12 => ?_)
        · replace hF := i_pos b12 hF
          refine en_segs [(95, .iload_n 2, []), (96, .iconst 1, [])] (by decide +kernel) (y := (97, [some (.ref a0), some (.int x1), some (.int x2), none, some (.int x4), some (.int x5), some (.int x6), some (.int (x1 + ((x6 - v7) * v8))), none, none], [.int 1, .int x2], h)) rfl ?_
          obtain ⟨t13, hX, hK⟩ := ob_some hF
          have j14 : ∀ h : UH, HW (mkw c0 c1 c2 c3 c4 c5 c6 c7 c8 c9 c10 c11 c12 c13) d h → Ends (EX D) (u_at kl_77) (123, [some (.ref a0), some (.int x1), some (.int x2), none, some (.int x4), some (.int x5), some (.int x6), some (.int (x1 + ((x6 - v7) * v8))), none, none], [.long t13], h) QQ := by
            intro h hW
            have hF := hK
            refine en_segs [(123, .lstore 8, []), (125, .aload_n 0, []), (126, .iload 5, []), (128, .iload 6, [])] (by decide +kernel) (y := (130, [some (.ref a0), some (.int x1), some (.int x2), none, some (.int x4), some (.int x5), some (.int x6), some (.int (x1 + ((x6 - v7) * v8))), some (.long t13), none], [.int x6, .int x5, .ref a0], h)) rfl ?_
            obtain ⟨r15, hr15, hF⟩ := ob_some hF
            refine en_vi (r := []) (by decide +kernel : u_at kl_77 130 = some (.invokevirtual 205, [78, 2, 7])) hW ha0 rfl rfl (Nat.le_of_ble_eq_true rfl) (e_78 (D := D) (by omega) hW ha0 hr15) (fun h' q => ?_)
            subst q
            refine en_if_eq (by decide +kernel : u_at kl_77 133 = some (.ifCond .eq 13, [146])) (fun b16 => ?_) (fun b16 => ?_)
            · replace hF := i_pos b16 hF
              refine en_segs [(146, .aload_n 0, [])] (by decide +kernel) (y := (147, [some (.ref a0), some (.int x1), some (.int x2), none, some (.int x4), some (.int x5), some (.int x6), some (.int (x1 + ((x6 - v7) * v8))), some (.long t13), none], [.ref a0], h)) rfl ?_
              refine en_get (by decide +kernel : u_at kl_77 147 = some (.getfield 18, [7, 0])) hW ha0 (by decide) rfl ?_
              refine en_segs [(150, .iload 7, []), (152, .lload 8, []), (154, .iload 4, [])] (by decide +kernel) (y := (156, [some (.ref a0), some (.int x1), some (.int x2), none, some (.int x4), some (.int x5), some (.int x6), some (.int (x1 + ((x6 - v7) * v8))), some (.long t13), none], [.int x4, .long t13, .int (x1 + ((x6 - v7) * v8)), .ref (cR c7 0 a0)], h)) rfl ?_
              obtain ⟨r17, hr17, hF⟩ := ob_some hF
              refine en_vi (r := []) (by decide +kernel : u_at kl_77 156 = some (.invokevirtual 212, [307, 3, 6])) hW k5 rfl rfl (Nat.le_of_ble_eq_true rfl) (e_307 (D := D) (by omega) hW k5 hr17) (fun h hW => ?_)
              have hW : HW (mkw c0 c1 c2 c3 c4 c5 c6 c7 c8 c9 c10 c11 c12 r17.2) d h := hW
              refine en_segs [(159, .istore 4, []), (161, .iinc 6 1, []), (164, .goto (-135), [29])] (by decide +kernel) (y := (29, [some (.ref a0), some (.int x1), some (.int x2), none, some (.int r17.1), some (.int x5), some (.int (x6 + 1)), some (.int (x1 + ((x6 - v7) * v8))), some (.long t13), none], [], h)) rfl ?_
              refine en_fg (fg_k (fg_k (fg_k (fg_k (fg_k (fg_k (fg_k (fg_d (fg_d (fg_k fg_0)))))))))) ?_
              exact (ih _ _ _ _ _ _ hF).2 _ _ _ _ _ rfl rfl rfl rfl  _ hW _ hQ
            · replace hF := i_neg b16 hF
              refine en_segs [(136, .aload_n 0, []), (137, .iload_n 2, []), (138, .lload 8, [])] (by decide +kernel) (y := (140, [some (.ref a0), some (.int x1), some (.int x2), none, some (.int x4), some (.int x5), some (.int x6), some (.int (x1 + ((x6 - v7) * v8))), some (.long t13), none], [.long t13, .int x2, .ref a0], h)) rfl ?_
              obtain ⟨r18, hr18, hF⟩ := ob_some hF
              refine en_vv (r := []) (by decide +kernel : u_at kl_77 140 = some (.invokevirtual 208, [79, 2, 7])) hW ha0 rfl rfl (Nat.le_of_ble_eq_true rfl) (e_79 (D := D) (by omega) hW ha0 hr18) (fun h hW => ?_)
              have hW : HW (mkw c0 c1 c2 c3 c4 c5 c6 r18 c8 c9 c10 c11 c12 c13) d h := hW
              refine en_segs [(143, .iload 4, [])] (by decide +kernel) (y := (145, [some (.ref a0), some (.int x1), some (.int x2), none, some (.int x4), some (.int x5), some (.int x6), some (.int (x1 + ((x6 - v7) * v8))), some (.long t13), none], [.int x4], h)) rfl ?_
              obtain rfl := Option.some.inj hF
              exact en_ret (by decide +kernel : u_at kl_77 145 = some (.ireturn, [0])) rfl (hQ _ hW)
          have hF := hX
          refine en_ic_ne (by decide +kernel : u_at kl_77 97 = some (.if_icmp .ne 17, [114])) (fun b19 => ?_) (fun b19 => ?_)
          · replace hF := i_pos b19 hF
            refine en_segs [(100, .iconst 2, []), (101, .iload 5, []), (103, .bipush 6, []), (105, .imul, []), (106, .iadd, []), (107, .iload 6, []), (109, .iadd, []), (110, .i2l, []), (111, .goto 12, [123])] (by decide +kernel) (y := (123, [some (.ref a0), some (.int x1), some (.int x2), none, some (.int x4), some (.int x5), some (.int x6), some (.int (x1 + ((x6 - v7) * v8))), none, none], [.long (((2 + (x5 * 6)) + x6 : Int32).toInt64)], h)) rfl ?_
            obtain rfl := Option.some.inj hF
            exact j14 _ hW
          · replace hF := i_neg b19 hF
            refine en_segs [(114, .aload_n 0, [])] (by decide +kernel) (y := (115, [some (.ref a0), some (.int x1), some (.int x2), none, some (.int x4), some (.int x5), some (.int x6), some (.int (x1 + ((x6 - v7) * v8))), none, none], [.ref a0], h)) rfl ?_
            refine en_get (by decide +kernel : u_at kl_77 115 = some (.getfield 18, [7, 0])) hW ha0 (by decide) rfl ?_
            have k20 : aK d (cR c6 12 (cR c7 0 a0)) = (2, 2, 0) := wf_free hW k5 (by decide) rfl
            refine en_get (by decide +kernel : u_at kl_77 118 = some (.getfield 49, [6, 12])) hW k5 (by decide) rfl ?_
            refine en_segs [(121, .iload_n 1, [])] (by decide +kernel) (y := (122, [some (.ref a0), some (.int x1), some (.int x2), none, some (.int x4), some (.int x5), some (.int x6), some (.int (x1 + ((x6 - v7) * v8))), none, none], [.int x1, .ref (cR c6 12 (cR c7 0 a0))], h)) rfl ?_
            obtain ⟨v21, hv21, hF⟩ := ob_some hF
            refine en_flald (by decide +kernel : u_at kl_77 122 = some (.laload, [])) hW k20 hv21 ?_
            obtain rfl := Option.some.inj hF
            exact j14 _ hW
        · replace hF := i_neg b12 hF
          refine en_segs [(161, .iinc 6 1, []), (164, .goto (-135), [29])] (by decide +kernel) (y := (29, [some (.ref a0), some (.int x1), some (.int x2), none, some (.int x4), some (.int x5), some (.int (x6 + 1)), some (.int (x1 + ((x6 - v7) * v8))), none, none], [], h)) rfl ?_
          refine en_fg (fg_k (fg_k (fg_k (fg_k (fg_k (fg_k (fg_k (fg_d (fg_k (fg_k fg_0)))))))))) ?_
          exact (ih _ _ _ _ _ _ hF).2 _ _ _ _ _ rfl rfl rfl rfl  _ hW _ hQ
def F_77 (c6 : Cl) (c7 : Cl) (c13 : Cl) (d : Ad) (a0 : Nat) (p1 : Int32) (p2 : Int32) (p3 : Int32) : Option (Int32 × Cl × Cl × Cl) :=
  F_57 c6 (cR c7 0 a0) p1 >>= fun r2 =>
  G_77 r2 c7 d a0 0 [p1, p2, p3, 0] [] [] c13
set_option maxRecDepth 100000 in
set_option maxHeartbeats 4000000 in
/-- HeadCounts$Search.seekFrom -/
theorem e_77 {D : Nat} {c0 c1 c2 c3 c4 c5 c6 c7 c8 c9 c10 c11 c12 c13 : Cl} {d : Ad} {h : UH} {a0 : Nat} {p1 : Int32} {p2 : Int32} {p3 : Int32} {r : (Int32 × Cl × Cl × Cl)} (hD : 3 ≤ D) (hW : HW (mkw c0 c1 c2 c3 c4 c5 c6 c7 c8 c9 c10 c11 c12 c13) d h) (ha0 : aK d a0 = (0, 7, 0)) (hF : F_77 c6 c7 c13 d a0 p1 p2 p3 = some r) : ∃ q, EX D 77 [.ref a0, .int p1, .int p2, .int p3] h q ∧ q.1 = some (.int r.1) ∧ HW (mkw c0 c1 c2 c3 c4 c5 r.2.1 r.2.2.1 c8 c9 c10 c11 c12 r.2.2.2) d q.2 := by
  obtain ⟨D, rfl⟩ : ∃ E, D = E + 1 := ⟨D - 1, by omega⟩
  unfold F_77 at hF
  refine ex_in (kl := kl_77) (nL := 10) rfl (by decide +kernel) (Nat.le_of_ble_eq_true rfl) ?_
  obtain ⟨QQ, hQQ⟩ : ∃ QQ : UR → Prop, QQ = (fun q : UR => q.1 = some (.int r.1) ∧ HW (mkw c0 c1 c2 c3 c4 c5 r.2.1 r.2.2.1 c8 c9 c10 c11 c12 r.2.2.2) d q.2) := ⟨_, rfl⟩
  rw [← hQQ]
  have hQ : ∀ h' : UH, HW (mkw c0 c1 c2 c3 c4 c5 r.2.1 r.2.2.1 c8 c9 c10 c11 c12 r.2.2.2) d h' → QQ (some (.int r.1), h') := fun h' p => by rw [hQQ]; exact ⟨rfl, p⟩
  clear hQQ
  show Ends (EX D) (u_at kl_77) (0, [some (.ref a0), some (.int p1), some (.int p2), some (.int p3), none, none, none, none, none, none], [], h) QQ
  refine en_segs [(0, .iload_n 3, []), (1, .istore 4, []), (3, .aload_n 0, [])] (by decide +kernel) (y := (4, [some (.ref a0), some (.int p1), some (.int p2), some (.int p3), some (.int p3), none, none, none, none, none], [.ref a0], h)) rfl ?_
  have k1 : aK d (cR c7 0 a0) = (0, 6, 0) := wf_obj hW ha0 (by decide) rfl
  refine en_get (by decide +kernel : u_at kl_77 4 = some (.getfield 18, [7, 0])) hW ha0 (by decide) rfl ?_
  refine en_segs [(7, .iload_n 1, [])] (by decide +kernel) (y := (8, [some (.ref a0), some (.int p1), some (.int p2), some (.int p3), some (.int p3), none, none, none, none, none], [.int p1, .ref (cR c7 0 a0)], h)) rfl ?_
  obtain ⟨r2, hr2, hF⟩ := ob_some hF
  refine en_vv (r := []) (by decide +kernel : u_at kl_77 8 = some (.invokevirtual 68, [57, 1, 6])) hW k1 rfl rfl (Nat.le_of_ble_eq_true rfl) (e_57 (D := D) (by omega) hW k1 hr2) (fun h hW => ?_)
  have hW : HW (mkw c0 c1 c2 c3 c4 c5 r2 c7 c8 c9 c10 c11 c12 c13) d h := hW
  refine en_segs [(11, .iconst 0, []), (12, .istore 5, [])] (by decide +kernel) (y := (14, [some (.ref a0), some (.int p1), some (.int p2), some (.int p3), some (.int p3), some (.int 0), none, none, none, none], [], h)) rfl ?_
  refine en_fg (fg_k (fg_k (fg_k (fg_d (fg_k (fg_k (fg_k (fg_k (fg_k (fg_k fg_0)))))))))) ?_
  exact (g_77 (D := D) hD ha0 _ _ _ _ _ _ hF).1 _ _ _ _ rfl rfl rfl rfl  _ hW _ hQ
def G_76 (d : Ad) (a0 : Nat) (lab : Nat) (xs : List Int32) (ys : List Int64) (zs : List Nat) (c6 : Cl) (c7 : Cl) (c13 : Cl) : Option (Cl × Cl × Cl × Ad) := match lab, xs, ys, zs with
  | 0, [x1, x2, x3, x4], [], [] =>
    if (cI c6 2 (cR c7 0 a0)) ≤ x4 then
    G_76 d a0 1 [x1] [] [] c6 c7 c13
    else
    if x1 ≤ x4 then
    G_76 d a0 1 [x1] [] [] c6 c7 c13
    else
    if (cI c7 8 a0) = (-2) then
    ((if x4 = x2 then
    some (x1, x3 + 1)
    else
    some (x2, x3)) : Option (Int32 × Int32)) >>= fun (t9 : Int32 × Int32) =>
    ald (cA c13 0 (cR c6 14 (cR c7 0 a0))) (aN d (cR c6 14 (cR c7 0 a0))) x4 >>= fun v12 =>
    F_77 c6 c7 c13 d a0 v12 t9.2 x1 >>= fun r13 =>
    G_76 d a0 0 [r13.1, t9.1, t9.2, x4 + 1] [] [] r13.2.1 r13.2.2.1 r13.2.2.2
    else
    G_76 d a0 1 [x1] [] [] c6 c7 c13
  | 1, [x1], [], [] =>
    F_56 c6 c13 d (cR c7 0 a0) x1 >>= fun r16 =>
    some (c6, c7, r16, d)
  | _, _, _, _ => none
partial_fixpoint
set_option maxRecDepth 100000 in
set_option maxHeartbeats 4000000 in
theorem g_76 {D : Nat} (hD : 4 ≤ D + 1) {c0 c1 c2 c3 c4 c5 c8 c9 c10 c11 c12 : Cl} {d : Ad} {a0 : Nat} (ha0 : aK d a0 = (0, 7, 0)) : ∀ (lab : Nat) (xs : List Int32) (ys : List Int64) (zs : List Nat) (c6 : Cl) (c7 : Cl) (c13 : Cl) (r : (Cl × Cl × Cl × Ad)), G_76 d a0 lab xs ys zs c6 c7 c13 = some r →
    (∀ (x1 : Int32) (x2 : Int32) (x3 : Int32) (x4 : Int32), lab = 0 → xs = [x1, x2, x3, x4] → ys = [] → zs = [] → ∀ h : UH, HW (mkw c0 c1 c2 c3 c4 c5 c6 c7 c8 c9 c10 c11 c12 c13) d h → ∀ QQ : UR → Prop, (∀ h' : UH, HX d (mkw c0 c1 c2 c3 c4 c5 r.1 r.2.1 c8 c9 c10 c11 c12 r.2.2.1) r.2.2.2 h' → QQ (none, h')) → Ends (EX D) (u_at kl_76) (16, [some (.ref a0), some (.int x1), some (.int x2), some (.int x3), some (.int x4)], [], h) QQ) ∧
    (∀ (x1 : Int32), lab = 1 → xs = [x1] → ys = [] → zs = [] → ∀ h : UH, HW (mkw c0 c1 c2 c3 c4 c5 c6 c7 c8 c9 c10 c11 c12 c13) d h → ∀ QQ : UR → Prop, (∀ h' : UH, HX d (mkw c0 c1 c2 c3 c4 c5 r.1 r.2.1 c8 c9 c10 c11 c12 r.2.2.1) r.2.2.2 h' → QQ (none, h')) → Ends (EX D) (u_at kl_76) (77, [some (.ref a0), some (.int x1), none, none, none], [], h) QQ) := by
  refine G_76.partial_correctness _ _ (motive := fun lab xs ys zs c6 c7 c13 r =>
    (∀ (x1 : Int32) (x2 : Int32) (x3 : Int32) (x4 : Int32), lab = 0 → xs = [x1, x2, x3, x4] → ys = [] → zs = [] → ∀ h : UH, HW (mkw c0 c1 c2 c3 c4 c5 c6 c7 c8 c9 c10 c11 c12 c13) d h → ∀ QQ : UR → Prop, (∀ h' : UH, HX d (mkw c0 c1 c2 c3 c4 c5 r.1 r.2.1 c8 c9 c10 c11 c12 r.2.2.1) r.2.2.2 h' → QQ (none, h')) → Ends (EX D) (u_at kl_76) (16, [some (.ref a0), some (.int x1), some (.int x2), some (.int x3), some (.int x4)], [], h) QQ) ∧
    (∀ (x1 : Int32), lab = 1 → xs = [x1] → ys = [] → zs = [] → ∀ h : UH, HW (mkw c0 c1 c2 c3 c4 c5 c6 c7 c8 c9 c10 c11 c12 c13) d h → ∀ QQ : UR → Prop, (∀ h' : UH, HX d (mkw c0 c1 c2 c3 c4 c5 r.1 r.2.1 c8 c9 c10 c11 c12 r.2.2.1) r.2.2.2 h' → QQ (none, h')) → Ends (EX D) (u_at kl_76) (77, [some (.ref a0), some (.int x1), none, none, none], [], h) QQ)) ?_
  intro G ih lab xs ys zs c6 c7 c13 r hF
  refine ⟨?_, ?_⟩
  · intro x1 x2 x3 x4 e1 e2 e3 e4 h hW QQ hQ
    subst e1 e2 e3 e4
    refine en_segs [(16, .iload 4, []), (18, .aload_n 0, [])] (by decide +kernel) (y := (19, [some (.ref a0), some (.int x1), some (.int x2), some (.int x3), some (.int x4)], [.ref a0, .int x4], h)) rfl ?_
    have k5 : aK d (cR c7 0 a0) = (0, 6, 0) := wf_obj hW ha0 (by decide) rfl
    refine en_get (by decide +kernel : u_at kl_76 19 = some (.getfield 18, [7, 0])) hW ha0 (by decide) rfl ?_
    refine en_get (by decide +kernel : u_at kl_76 22 = some (.getfield 195, [6, 2])) hW k5 (by decide) rfl ?_
    refine en_ic_ge (by decide +kernel : u_at kl_76 25 = some (.if_icmp .ge 52, [77])) (fun b6 => ?_) (fun b6 => ?_)
    · replace hF := i_pos b6 hF
      refine en_fg (fg_k (fg_k (fg_d (fg_d (fg_d fg_0))))) ?_
      exact (ih _ _ _ _ _ _ _ _ hF).2 _ rfl rfl rfl rfl  _ hW _ hQ
    · replace hF := i_neg b6 hF
      refine en_segs [(28, .iload 4, []), (30, .iload_n 1, [])] (by decide +kernel) (y := (31, [some (.ref a0), some (.int x1), some (.int x2), some (.int x3), some (.int x4)], [.int x1, .int x4], h)) rfl ?_
      refine en_ic_ge (by decide +kernel : u_at kl_76 31 = some (.if_icmp .ge 46, [77])) (fun b7 => ?_) (fun b7 => ?_)
      · replace hF := i_pos b7 hF
        refine en_fg (fg_k (fg_k (fg_d (fg_d (fg_d fg_0))))) ?_
        exact (ih _ _ _ _ _ _ _ _ hF).2 _ rfl rfl rfl rfl  _ hW _ hQ
      · replace hF := i_neg b7 hF
        refine en_segs [(34, .aload_n 0, [])] (by decide +kernel) (y := (35, [some (.ref a0), some (.int x1), some (.int x2), some (.int x3), some (.int x4)], [.ref a0], h)) rfl ?_
        refine en_get (by decide +kernel : u_at kl_76 35 = some (.getfield 176, [7, 8])) hW ha0 (by decide) rfl ?_
        refine en_segs [(38, .bipush (-2), [])] (by decide +kernel) (y := (40, [some (.ref a0), some (.int x1), some (.int x2), some (.int x3), some (.int x4)], [.int (-2), .int (cI c7 8 a0)], h)) rfl ?_
        refine en_ic_ne (by decide +kernel : u_at kl_76 40 = some (.if_icmp .ne 37, [77])) (fun b8 => ?_) (fun b8 => ?_)
        · replace hF := i_pos b8 hF
          refine en_segs [(43, .iload 4, []), (45, .iload_n 2, [])] (by decide +kernel) (y := (46, [some (.ref a0), some (.int x1), some (.int x2), some (.int x3), some (.int x4)], [.int x2, .int x4], h)) rfl ?_
          obtain ⟨t9, hX, hK⟩ := ob_some hF
          have j10 : ∀ h : UH, HW (mkw c0 c1 c2 c3 c4 c5 c6 c7 c8 c9 c10 c11 c12 c13) d h → Ends (EX D) (u_at kl_76) (54, [some (.ref a0), some (.int x1), some (.int t9.1), some (.int t9.2), some (.int x4)], [], h) QQ := by
            intro h hW
            have hF := hK
            refine en_segs [(54, .aload_n 0, []), (55, .aload_n 0, [])] (by decide +kernel) (y := (56, [some (.ref a0), some (.int x1), some (.int t9.1), some (.int t9.2), some (.int x4)], [.ref a0, .ref a0], h)) rfl ?_
            refine en_get (by decide +kernel : u_at kl_76 56 = some (.getfield 18, [7, 0])) hW ha0 (by decide) rfl ?_
            have k11 : aK d (cR c6 14 (cR c7 0 a0)) = (2, 1, 0) := wf_free hW k5 (by decide) rfl
            refine en_get (by decide +kernel : u_at kl_76 59 = some (.getfield 55, [6, 14])) hW k5 (by decide) rfl ?_
            refine en_segs [(62, .iload 4, [])] (by decide +kernel) (y := (64, [some (.ref a0), some (.int x1), some (.int t9.1), some (.int t9.2), some (.int x4)], [.int x4, .ref (cR c6 14 (cR c7 0 a0)), .ref a0], h)) rfl ?_
            obtain ⟨v12, hv12, hF⟩ := ob_some hF
            refine en_fiald (by decide +kernel : u_at kl_76 64 = some (.iaload, [])) hW k11 hv12 ?_
            refine en_segs [(65, .iload_n 3, []), (66, .iload_n 1, [])] (by decide +kernel) (y := (67, [some (.ref a0), some (.int x1), some (.int t9.1), some (.int t9.2), some (.int x4)], [.int x1, .int t9.2, .int v12, .ref a0], h)) rfl ?_
            obtain ⟨r13, hr13, hF⟩ := ob_some hF
            refine en_vi (r := []) (by decide +kernel : u_at kl_76 67 = some (.invokevirtual 198, [77, 3, 7])) hW ha0 rfl rfl (Nat.le_of_ble_eq_true rfl) (e_77 (D := D) (by omega) hW ha0 hr13) (fun h hW => ?_)
            have hW : HW (mkw c0 c1 c2 c3 c4 c5 r13.2.1 r13.2.2.1 c8 c9 c10 c11 c12 r13.2.2.2) d h := hW
            refine en_segs [(70, .istore_n 1, []), (71, .iinc 4 1, []), (74, .goto (-58), [16])] (by decide +kernel) (y := (16, [some (.ref a0), some (.int r13.1), some (.int t9.1), some (.int t9.2), some (.int (x4 + 1))], [], h)) rfl ?_
            exact (ih _ _ _ _ _ _ _ _ hF).1 _ _ _ _ rfl rfl rfl rfl  _ hW _ hQ
          have hF := hX
          refine en_ic_ne (by decide +kernel : u_at kl_76 46 = some (.if_icmp .ne 8, [54])) (fun b14 => ?_) (fun b14 => ?_)
          · replace hF := i_pos b14 hF
            refine en_segs [(49, .iinc 3 1, []), (52, .iload_n 1, []), (53, .istore_n 2, [])] (by decide +kernel) (y := (54, [some (.ref a0), some (.int x1), some (.int x1), some (.int (x3 + 1)), some (.int x4)], [], h)) rfl ?_
            obtain rfl := Option.some.inj hF
            exact j10 _ hW
          · replace hF := i_neg b14 hF
            obtain rfl := Option.some.inj hF
            exact j10 _ hW
        · replace hF := i_neg b8 hF
          refine en_fg (fg_k (fg_k (fg_d (fg_d (fg_d fg_0))))) ?_
          exact (ih _ _ _ _ _ _ _ _ hF).2 _ rfl rfl rfl rfl  _ hW _ hQ
  · intro x1 e1 e2 e3 e4 h hW QQ hQ
    subst e1 e2 e3 e4
    refine en_segs [(77, .aload_n 0, [])] (by decide +kernel) (y := (78, [some (.ref a0), some (.int x1), none, none, none], [.ref a0], h)) rfl ?_
    have k15 : aK d (cR c7 0 a0) = (0, 6, 0) := wf_obj hW ha0 (by decide) rfl
    refine en_get (by decide +kernel : u_at kl_76 78 = some (.getfield 18, [7, 0])) hW ha0 (by decide) rfl ?_
    refine en_segs [(81, .iload_n 1, [])] (by decide +kernel) (y := (82, [some (.ref a0), some (.int x1), none, none, none], [.int x1, .ref (cR c7 0 a0)], h)) rfl ?_
    obtain ⟨r16, hr16, hF⟩ := ob_some hF
    refine en_vv (r := []) (by decide +kernel : u_at kl_76 82 = some (.invokevirtual 62, [56, 1, 6])) hW k15 rfl rfl (Nat.le_of_ble_eq_true rfl) (e_56 (D := D) (by omega) hW k15 hr16) (fun h hW => ?_)
    have hW : HW (mkw c0 c1 c2 c3 c4 c5 c6 c7 c8 c9 c10 c11 c12 r16) d h := hW
    obtain rfl := Option.some.inj hF
    exact en_ret (by decide +kernel : u_at kl_76 85 = some (.return_, [])) rfl (hQ _ ⟨hW, Adx.rf⟩)
def F_76 (c6 : Cl) (c7 : Cl) (c13 : Cl) (d : Ad) (a0 : Nat) : Option (Cl × Cl × Cl × Ad) :=
  F_53 c6 c13 d (cR c7 0 a0) >>= fun r2 =>
  G_76 r2.2.2 a0 0 [1, 1, 1, 0] [] [] r2.1 c7 r2.2.1
set_option maxRecDepth 100000 in
set_option maxHeartbeats 4000000 in
/-- HeadCounts$Search.seekWidely -/
theorem e_76 {D : Nat} {c0 c1 c2 c3 c4 c5 c6 c7 c8 c9 c10 c11 c12 c13 : Cl} {d : Ad} {h : UH} {a0 : Nat} {r : (Cl × Cl × Cl × Ad)} (hD : 4 ≤ D) (hW : HW (mkw c0 c1 c2 c3 c4 c5 c6 c7 c8 c9 c10 c11 c12 c13) d h) (ha0 : aK d a0 = (0, 7, 0)) (hF : F_76 c6 c7 c13 d a0 = some r) : ∃ q, EX D 76 [.ref a0] h q ∧ q.1 = none ∧ HX d (mkw c0 c1 c2 c3 c4 c5 r.1 r.2.1 c8 c9 c10 c11 c12 r.2.2.1) r.2.2.2 q.2 := by
  obtain ⟨D, rfl⟩ : ∃ E, D = E + 1 := ⟨D - 1, by omega⟩
  unfold F_76 at hF
  refine ex_in (kl := kl_76) (nL := 5) rfl (by decide +kernel) (Nat.le_of_ble_eq_true rfl) ?_
  obtain ⟨QQ, hQQ⟩ : ∃ QQ : UR → Prop, QQ = (fun q : UR => q.1 = none ∧ HX d (mkw c0 c1 c2 c3 c4 c5 r.1 r.2.1 c8 c9 c10 c11 c12 r.2.2.1) r.2.2.2 q.2) := ⟨_, rfl⟩
  rw [← hQQ]
  have hQ : ∀ h' : UH, HX d (mkw c0 c1 c2 c3 c4 c5 r.1 r.2.1 c8 c9 c10 c11 c12 r.2.2.1) r.2.2.2 h' → QQ (none, h') := fun h' p => by rw [hQQ]; exact ⟨rfl, p⟩
  clear hQQ
  show Ends (EX D) (u_at kl_76) (0, [some (.ref a0), none, none, none, none], [], h) QQ
  refine en_segs [(0, .aload_n 0, [])] (by decide +kernel) (y := (1, [some (.ref a0), none, none, none, none], [.ref a0], h)) rfl ?_
  have k1 : aK d (cR c7 0 a0) = (0, 6, 0) := wf_obj hW ha0 (by decide) rfl
  refine en_get (by decide +kernel : u_at kl_76 1 = some (.getfield 18, [7, 0])) hW ha0 (by decide) rfl ?_
  obtain ⟨r2, hr2, hF⟩ := ob_some hF
  refine en_vv (r := []) (by decide +kernel : u_at kl_76 4 = some (.invokevirtual 114, [53, 0, 6])) hW k1 rfl rfl (Nat.le_of_ble_eq_true rfl) (e_53 (D := D) (by omega) hW k1 hr2) (fun h q => ?_)
  obtain ⟨hW, X3⟩ := q
  have ha0 := X3.o ha0
  have k1 := X3.o k1
  have A4 := X3
  have hW : HW (mkw c0 c1 c2 c3 c4 c5 r2.1 c7 c8 c9 c10 c11 c12 r2.2.1) r2.2.2 h := hW
  refine en_segs [(7, .iconst 1, []), (8, .istore_n 1, []), (9, .iconst 1, []), (10, .istore_n 2, []), (11, .iconst 1, []), (12, .istore_n 3, []), (13, .iconst 0, []), (14, .istore 4, [])] (by decide +kernel) (y := (16, [some (.ref a0), some (.int 1), some (.int 1), some (.int 1), some (.int 0)], [], h)) rfl ?_
  exact (g_76 (D := D) hD ha0 _ _ _ _ _ _ _ _ hF).1 _ _ _ _ rfl rfl rfl rfl  _ hW _ (fun h' p => hQ h' ⟨p.1, A4.trans p.2⟩)
def F_74 (c1 : Cl) (c6 : Cl) (c7 : Cl) (c8 : Cl) (c13 : Cl) (d : Ad) (a0 : Nat) (a1 : Nat) (p2 : Int32) (p3 : Int32) : Option (Cl × Cl × Cl × Ad) :=
  F_51 c1 c6 c8 (cR c7 0 a0) a1 >>= fun r2 =>
  some (sI c7 11 a0 p2) >>= fun c7_3 =>
  some (sI c7_3 12 a0 p3) >>= fun c7_4 =>
  some (sI c7_4 8 a0 (-2)) >>= fun c7_5 =>
  some (sI c7_5 9 a0 (-2)) >>= fun c7_6 =>
  some (sI c7_6 10 a0 (-2)) >>= fun c7_7 =>
  ald (cA r2 11 (cR c7_7 0 a0)) 6 p2 >>= fun v9 =>
  ((if v9 = p3 then
  some (sI c7_7 8 a0 0) >>= fun c7_15 =>
  some (r2, c7_15, c13, d)
  else
  F_75 r2 c7_7 a0 p3 >>= fun r16 =>
  if r16 = 0 then
  some (r2, c7_7, c13, d)
  else
  F_76 r2 c7_7 c13 d a0 >>= fun r18 =>
  some (r18.1, r18.2.1, r18.2.2.1, r18.2.2.2)) : Option (Cl × Cl × Cl × Ad)) >>= fun (t10 : Cl × Cl × Cl × Ad) =>
  some (t10.1, t10.2.1, t10.2.2.1, t10.2.2.2)
set_option maxRecDepth 100000 in
set_option maxHeartbeats 4000000 in
/-- HeadCounts$Search.seekCount -/
theorem e_74 {D : Nat} {c0 c1 c2 c3 c4 c5 c6 c7 c8 c9 c10 c11 c12 c13 : Cl} {d : Ad} {h : UH} {a0 : Nat} {a1 : Nat} {p2 : Int32} {p3 : Int32} {r : (Cl × Cl × Cl × Ad)} (hD : 5 ≤ D) (hW : HW (mkw c0 c1 c2 c3 c4 c5 c6 c7 c8 c9 c10 c11 c12 c13) d h) (ha0 : aK d a0 = (0, 7, 0)) (ha1 : aK d a1 = (0, 8, 0)) (hF : F_74 c1 c6 c7 c8 c13 d a0 a1 p2 p3 = some r) : ∃ q, EX D 74 [.ref a0, .ref a1, .int p2, .int p3] h q ∧ q.1 = none ∧ HX d (mkw c0 c1 c2 c3 c4 c5 r.1 r.2.1 c8 c9 c10 c11 c12 r.2.2.1) r.2.2.2 q.2 := by
  obtain ⟨D, rfl⟩ : ∃ E, D = E + 1 := ⟨D - 1, by omega⟩
  unfold F_74 at hF
  refine ex_in (kl := kl_74) (nL := 4) rfl (by decide +kernel) (Nat.le_of_ble_eq_true rfl) ?_
  obtain ⟨QQ, hQQ⟩ : ∃ QQ : UR → Prop, QQ = (fun q : UR => q.1 = none ∧ HX d (mkw c0 c1 c2 c3 c4 c5 r.1 r.2.1 c8 c9 c10 c11 c12 r.2.2.1) r.2.2.2 q.2) := ⟨_, rfl⟩
  rw [← hQQ]
  have hQ : ∀ h' : UH, HX d (mkw c0 c1 c2 c3 c4 c5 r.1 r.2.1 c8 c9 c10 c11 c12 r.2.2.1) r.2.2.2 h' → QQ (none, h') := fun h' p => by rw [hQQ]; exact ⟨rfl, p⟩
  clear hQQ
  show Ends (EX D) (u_at kl_74) (0, [some (.ref a0), some (.ref a1), some (.int p2), some (.int p3)], [], h) QQ
  refine en_segs [(0, .aload_n 0, [])] (by decide +kernel) (y := (1, [some (.ref a0), some (.ref a1), some (.int p2), some (.int p3)], [.ref a0], h)) rfl ?_
  have k1 : aK d (cR c7 0 a0) = (0, 6, 0) := wf_obj hW ha0 (by decide) rfl
  refine en_get (by decide +kernel : u_at kl_74 1 = some (.getfield 18, [7, 0])) hW ha0 (by decide) rfl ?_
  refine en_segs [(4, .aload_n 1, [])] (by decide +kernel) (y := (5, [some (.ref a0), some (.ref a1), some (.int p2), some (.int p3)], [.ref a1, .ref (cR c7 0 a0)], h)) rfl ?_
  obtain ⟨r2, hr2, hF⟩ := ob_some hF
  refine en_vv (r := []) (by decide +kernel : u_at kl_74 5 = some (.invokevirtual 110, [51, 1, 6])) hW k1 rfl rfl (Nat.le_of_ble_eq_true rfl) (e_51 (D := D) (by omega) hW k1 ha1 hr2) (fun h hW => ?_)
  have hW : HW (mkw c0 c1 c2 c3 c4 c5 r2 c7 c8 c9 c10 c11 c12 c13) d h := hW
  refine en_segs [(8, .aload_n 0, []), (9, .iload_n 2, [])] (by decide +kernel) (y := (10, [some (.ref a0), some (.ref a1), some (.int p2), some (.int p3)], [.int p2, .ref a0], h)) rfl ?_
  obtain ⟨c7_3, hc7_3, hF⟩ := ob_some hF
  refine en_putI (by decide +kernel : u_at kl_74 10 = some (.putfield 170, [7, 11, 0])) hW ha0 rfl (by decide) rfl (fun h hW => ?_)
  have hW : HW (mkw c0 c1 c2 c3 c4 c5 r2 c7_3 c8 c9 c10 c11 c12 c13) d h := by rw [← Option.some.inj hc7_3]; exact hW
  refine en_segs [(13, .aload_n 0, []), (14, .iload_n 3, [])] (by decide +kernel) (y := (15, [some (.ref a0), some (.ref a1), some (.int p2), some (.int p3)], [.int p3, .ref a0], h)) rfl ?_
  obtain ⟨c7_4, hc7_4, hF⟩ := ob_some hF
  refine en_putI (by decide +kernel : u_at kl_74 15 = some (.putfield 173, [7, 12, 0])) hW ha0 rfl (by decide) rfl (fun h hW => ?_)
  have hW : HW (mkw c0 c1 c2 c3 c4 c5 r2 c7_4 c8 c9 c10 c11 c12 c13) d h := by rw [← Option.some.inj hc7_4]; exact hW
  refine en_segs [(18, .aload_n 0, []), (19, .bipush (-2), [])] (by decide +kernel) (y := (21, [some (.ref a0), some (.ref a1), some (.int p2), some (.int p3)], [.int (-2), .ref a0], h)) rfl ?_
  obtain ⟨c7_5, hc7_5, hF⟩ := ob_some hF
  refine en_putI (by decide +kernel : u_at kl_74 21 = some (.putfield 176, [7, 8, 0])) hW ha0 rfl (by decide) rfl (fun h hW => ?_)
  have hW : HW (mkw c0 c1 c2 c3 c4 c5 r2 c7_5 c8 c9 c10 c11 c12 c13) d h := by rw [← Option.some.inj hc7_5]; exact hW
  refine en_segs [(24, .aload_n 0, []), (25, .bipush (-2), [])] (by decide +kernel) (y := (27, [some (.ref a0), some (.ref a1), some (.int p2), some (.int p3)], [.int (-2), .ref a0], h)) rfl ?_
  obtain ⟨c7_6, hc7_6, hF⟩ := ob_some hF
  refine en_putI (by decide +kernel : u_at kl_74 27 = some (.putfield 179, [7, 9, 0])) hW ha0 rfl (by decide) rfl (fun h hW => ?_)
  have hW : HW (mkw c0 c1 c2 c3 c4 c5 r2 c7_6 c8 c9 c10 c11 c12 c13) d h := by rw [← Option.some.inj hc7_6]; exact hW
  refine en_segs [(30, .aload_n 0, []), (31, .bipush (-2), [])] (by decide +kernel) (y := (33, [some (.ref a0), some (.ref a1), some (.int p2), some (.int p3)], [.int (-2), .ref a0], h)) rfl ?_
  obtain ⟨c7_7, hc7_7, hF⟩ := ob_some hF
  refine en_putI (by decide +kernel : u_at kl_74 33 = some (.putfield 182, [7, 10, 0])) hW ha0 rfl (by decide) rfl (fun h hW => ?_)
  have hW : HW (mkw c0 c1 c2 c3 c4 c5 r2 c7_7 c8 c9 c10 c11 c12 c13) d h := by rw [← Option.some.inj hc7_7]; exact hW
  refine en_segs [(36, .aload_n 0, [])] (by decide +kernel) (y := (37, [some (.ref a0), some (.ref a1), some (.int p2), some (.int p3)], [.ref a0], h)) rfl ?_
  have k8 : aK d (cR c7_7 0 a0) = (0, 6, 0) := wf_obj hW ha0 (by decide) rfl
  refine en_get (by decide +kernel : u_at kl_74 37 = some (.getfield 18, [7, 0])) hW ha0 (by decide) rfl ?_
  refine en_get (by decide +kernel : u_at kl_74 40 = some (.getfield 83, [6, 11])) hW k8 (by decide) rfl ?_
  refine en_segs [(43, .iload_n 2, [])] (by decide +kernel) (y := (44, [some (.ref a0), some (.ref a1), some (.int p2), some (.int p3)], [.int p2, .ref (aP d 6 11 (cR c7_7 0 a0))], h)) rfl ?_
  obtain ⟨v9, hv9, hF⟩ := ob_some hF
  refine en_iald (by decide +kernel : u_at kl_74 44 = some (.iaload, [])) hW k8 rfl (by decide) hv9 ?_
  refine en_segs [(45, .iload_n 3, [])] (by decide +kernel) (y := (46, [some (.ref a0), some (.ref a1), some (.int p2), some (.int p3)], [.int p3, .int v9], h)) rfl ?_
  obtain ⟨t10, hX, hK⟩ := ob_some hF
  have j11 : ∀ h : UH, HW (mkw c0 c1 c2 c3 c4 c5 t10.1 t10.2.1 c8 c9 c10 c11 c12 t10.2.2.1) t10.2.2.2 h → Adx d t10.2.2.2 → Ends (EX D) (u_at kl_74) (69, [some (.ref a0), some (.ref a1), some (.int p2), some (.int p3)], [], h) QQ := by
    intro h hW hX0
    have ha0 := hX0.o ha0
    have ha1 := hX0.o ha1
    have k1 := hX0.o k1
    have k8 := hX0.o k8
    have A12 := hX0
    have A13 := hX0
    have hF := hK
    obtain rfl := Option.some.inj hF
    exact en_ret (by decide +kernel : u_at kl_74 69 = some (.return_, [])) rfl (hQ _ ⟨hW, A12⟩)
  have hF := hX
  refine en_ic_ne (by decide +kernel : u_at kl_74 46 = some (.if_icmp .ne 11, [57])) (fun b14 => ?_) (fun b14 => ?_)
  · replace hF := i_pos b14 hF
    refine en_segs [(49, .aload_n 0, []), (50, .iconst 0, [])] (by decide +kernel) (y := (51, [some (.ref a0), some (.ref a1), some (.int p2), some (.int p3)], [.int 0, .ref a0], h)) rfl ?_
    obtain ⟨c7_15, hc7_15, hF⟩ := ob_some hF
    refine en_putI (by decide +kernel : u_at kl_74 51 = some (.putfield 176, [7, 8, 0])) hW ha0 rfl (by decide) rfl (fun h hW => ?_)
    have hW : HW (mkw c0 c1 c2 c3 c4 c5 r2 c7_15 c8 c9 c10 c11 c12 c13) d h := by rw [← Option.some.inj hc7_15]; exact hW
    refine en_segs [(54, .goto 15, [69])] (by decide +kernel) (y := (69, [some (.ref a0), some (.ref a1), some (.int p2), some (.int p3)], [], h)) rfl ?_
    obtain rfl := Option.some.inj hF
    exact j11 _ hW Adx.rf
  · replace hF := i_neg b14 hF
    refine en_segs [(57, .aload_n 0, []), (58, .iload_n 3, [])] (by decide +kernel) (y := (59, [some (.ref a0), some (.ref a1), some (.int p2), some (.int p3)], [.int p3, .ref a0], h)) rfl ?_
    obtain ⟨r16, hr16, hF⟩ := ob_some hF
    refine en_vi (r := []) (by decide +kernel : u_at kl_74 59 = some (.invokevirtual 185, [75, 1, 7])) hW ha0 rfl rfl (Nat.le_of_ble_eq_true rfl) (e_75 (D := D) (by omega) hW ha0 hr16) (fun h' q => ?_)
    subst q
    refine en_if_eq (by decide +kernel : u_at kl_74 62 = some (.ifCond .eq 7, [69])) (fun b17 => ?_) (fun b17 => ?_)
    · replace hF := i_pos b17 hF
      obtain rfl := Option.some.inj hF
      exact j11 _ hW Adx.rf
    · replace hF := i_neg b17 hF
      refine en_segs [(65, .aload_n 0, [])] (by decide +kernel) (y := (66, [some (.ref a0), some (.ref a1), some (.int p2), some (.int p3)], [.ref a0], h)) rfl ?_
      obtain ⟨r18, hr18, hF⟩ := ob_some hF
      refine en_vv (r := []) (by decide +kernel : u_at kl_74 66 = some (.invokevirtual 189, [76, 0, 7])) hW ha0 rfl rfl (Nat.le_of_ble_eq_true rfl) (e_76 (D := D) (by omega) hW ha0 hr18) (fun h q => ?_)
      obtain ⟨hW, X19⟩ := q
      have ha0 := X19.o ha0
      have ha1 := X19.o ha1
      have k1 := X19.o k1
      have k8 := X19.o k8
      have A20 := X19
      have hW : HW (mkw c0 c1 c2 c3 c4 c5 r18.1 r18.2.1 c8 c9 c10 c11 c12 r18.2.2.1) r18.2.2.2 h := hW
      obtain rfl := Option.some.inj hF
      exact j11 _ hW A20
def F_85 (c8 : Cl) (a0 : Nat) (p1 : Int32) : Option Int32 :=
  ((if (((cI c8 2 a0) >>> (p1 &&& 31)) &&& 1) = 1 then
  some 1
  else
  some 0) : Option (Int32)) >>= fun (t1 : Int32) =>
  zb t1 >>= fun z3 => some z3
set_option maxRecDepth 100000 in
set_option maxHeartbeats 4000000 in
/-- HeadCounts$State.isOpen -/
theorem e_85 {D : Nat} {c0 c1 c2 c3 c4 c5 c6 c7 c8 c9 c10 c11 c12 c13 : Cl} {d : Ad} {h : UH} {a0 : Nat} {p1 : Int32} {r : Int32} (hD : 1 ≤ D) (hW : HW (mkw c0 c1 c2 c3 c4 c5 c6 c7 c8 c9 c10 c11 c12 c13) d h) (ha0 : aK d a0 = (0, 8, 0)) (hF : F_85 c8 a0 p1 = some r) : ∃ q, EX D 85 [.ref a0, .int p1] h q ∧ q.1 = some (.int r) ∧ h = q.2 := by
  obtain ⟨D, rfl⟩ : ∃ E, D = E + 1 := ⟨D - 1, by omega⟩
  unfold F_85 at hF
  refine ex_in (kl := kl_85) (nL := 2) rfl (by decide +kernel) (Nat.le_of_ble_eq_true rfl) ?_
  obtain ⟨QQ, hQQ⟩ : ∃ QQ : UR → Prop, QQ = (fun q : UR => q.1 = some (.int r) ∧ h = q.2) := ⟨_, rfl⟩
  rw [← hQQ]
  have hQ : QQ (some (.int r), h) := by rw [hQQ]; exact ⟨rfl, rfl⟩
  clear hQQ
  show Ends (EX D) (u_at kl_85) (0, [some (.ref a0), some (.int p1)], [], h) QQ
  refine en_segs [(0, .aload_n 0, [])] (by decide +kernel) (y := (1, [some (.ref a0), some (.int p1)], [.ref a0], h)) rfl ?_
  refine en_get (by decide +kernel : u_at kl_85 1 = some (.getfield 55, [8, 2])) hW ha0 (by decide) rfl ?_
  refine en_segs [(4, .iload_n 1, []), (5, .ishr, []), (6, .iconst 1, []), (7, .iand, []), (8, .iconst 1, [])] (by decide +kernel) (y := (9, [some (.ref a0), some (.int p1)], [.int 1, .int (((cI c8 2 a0) >>> (p1 &&& 31)) &&& 1)], h)) rfl ?_
  obtain ⟨t1, hX, hK⟩ := ob_some hF
  have j2 : Ends (EX D) (u_at kl_85) (17, [some (.ref a0), some (.int p1)], [.int t1], h) QQ := by
    have hF := hK
    obtain ⟨z3, hz3, hF⟩ := ob_some hF
    obtain rfl := Option.some.inj hF
    exact en_retZ (by decide +kernel : u_at kl_85 17 = some (.ireturn, [1])) hz3 (hQ)
  have hF := hX
  refine en_ic_ne (by decide +kernel : u_at kl_85 9 = some (.if_icmp .ne 7, [16])) (fun b4 => ?_) (fun b4 => ?_)
  · replace hF := i_pos b4 hF
    refine en_segs [(12, .iconst 1, []), (13, .goto 4, [17])] (by decide +kernel) (y := (17, [some (.ref a0), some (.int p1)], [.int 1], h)) rfl ?_
    obtain rfl := Option.some.inj hF
    exact j2
  · replace hF := i_neg b4 hF
    refine en_segs [(16, .iconst 0, [])] (by decide +kernel) (y := (17, [some (.ref a0), some (.int p1)], [.int 0], h)) rfl ?_
    obtain rfl := Option.some.inj hF
    exact j2
def G_86 (c1 : Cl) (a0 : Nat) (lab : Nat) (xs : List Int32) (ys : List Int64) (zs : List Nat) (c8 : Cl) : Option Cl := match lab, xs, ys, zs with
  | 0, [x1], [], [] =>
    if (cI c1 1 (cR c8 0 a0)) ≤ x1 then
    some c8
    else
    F_85 c8 a0 x1 >>= fun r4 =>
    ((if r4 = 0 then
    some c8
    else
    ald (cA c1 5 (cR c8 0 a0)) 10 x1 >>= fun v8 =>
    ald (cA c8 12 a0) 6 v8 >>= fun v9 =>
    ald (cA c1 6 (cR c8 0 a0)) 10 x1 >>= fun v10 =>
    ast c8 12 a0 6 v8 (v9 ||| (1 <<< (v10 &&& 31))) >>= fun c8_11 =>
    ald (cA c1 6 (cR c8_11 0 a0)) 10 x1 >>= fun v13 =>
    ald (cA c8_11 12 a0) 6 v13 >>= fun v14 =>
    ald (cA c1 5 (cR c8_11 0 a0)) 10 x1 >>= fun v15 =>
    ast c8_11 12 a0 6 v13 (v14 ||| (1 <<< (v15 &&& 31))) >>= fun c8_16 =>
    some c8_16) : Option (Cl)) >>= fun (t5 : Cl) =>
    G_86 c1 a0 0 [x1 + 1] [] [] t5
  | _, _, _, _ => none
partial_fixpoint
set_option maxRecDepth 100000 in
set_option maxHeartbeats 4000000 in
theorem g_86 {D : Nat} (hD : 2 ≤ D + 1) {c0 c1 c2 c3 c4 c5 c6 c7 c9 c10 c11 c12 c13 : Cl} {d : Ad} {a0 : Nat} (ha0 : aK d a0 = (0, 8, 0)) : ∀ (lab : Nat) (xs : List Int32) (ys : List Int64) (zs : List Nat) (c8 : Cl) (r : Cl), G_86 c1 a0 lab xs ys zs c8 = some r →
    (∀ (x1 : Int32), lab = 0 → xs = [x1] → ys = [] → zs = [] → ∀ h : UH, HW (mkw c0 c1 c2 c3 c4 c5 c6 c7 c8 c9 c10 c11 c12 c13) d h → ∀ QQ : UR → Prop, (∀ h' : UH, HW (mkw c0 c1 c2 c3 c4 c5 c6 c7 r c9 c10 c11 c12 c13) d h' → QQ (none, h')) → Ends (EX D) (u_at kl_86) (10, [some (.ref a0), some (.int x1)], [], h) QQ) := by
  refine G_86.partial_correctness _ _ (motive := fun lab xs ys zs c8 r =>
    (∀ (x1 : Int32), lab = 0 → xs = [x1] → ys = [] → zs = [] → ∀ h : UH, HW (mkw c0 c1 c2 c3 c4 c5 c6 c7 c8 c9 c10 c11 c12 c13) d h → ∀ QQ : UR → Prop, (∀ h' : UH, HW (mkw c0 c1 c2 c3 c4 c5 c6 c7 r c9 c10 c11 c12 c13) d h' → QQ (none, h')) → Ends (EX D) (u_at kl_86) (10, [some (.ref a0), some (.int x1)], [], h) QQ)) ?_
  intro G ih lab xs ys zs c8 r hF
  · intro x1 e1 e2 e3 e4 h hW QQ hQ
    subst e1 e2 e3 e4
    refine en_segs [(10, .iload_n 1, []), (11, .aload_n 0, [])] (by decide +kernel) (y := (12, [some (.ref a0), some (.int x1)], [.ref a0, .int x1], h)) rfl ?_
    have k2 : aK d (cR c8 0 a0) = (0, 1, 0) := wf_obj hW ha0 (by decide) rfl
    refine en_get (by decide +kernel : u_at kl_86 12 = some (.getfield 42, [8, 0])) hW ha0 (by decide) rfl ?_
    refine en_get (by decide +kernel : u_at kl_86 15 = some (.getfield 50, [1, 1])) hW k2 (by decide) rfl ?_
    refine en_ic_ge (by decide +kernel : u_at kl_86 18 = some (.if_icmp .ge 73, [91])) (fun b3 => ?_) (fun b3 => ?_)
    · replace hF := i_pos b3 hF
      obtain rfl := Option.some.inj hF
      exact en_ret (by decide +kernel : u_at kl_86 91 = some (.return_, [])) rfl (hQ _ hW)
    · replace hF := i_neg b3 hF
      refine en_segs [(21, .aload_n 0, []), (22, .iload_n 1, [])] (by decide +kernel) (y := (23, [some (.ref a0), some (.int x1)], [.int x1, .ref a0], h)) rfl ?_
      obtain ⟨r4, hr4, hF⟩ := ob_some hF
      refine en_vi (r := []) (by decide +kernel : u_at kl_86 23 = some (.invokevirtual 86, [85, 1, 8])) hW ha0 rfl rfl (Nat.le_of_ble_eq_true rfl) (e_85 (D := D) (by omega) hW ha0 hr4) (fun h' q => ?_)
      subst q
      obtain ⟨t5, hX, hK⟩ := ob_some hF
      have j6 : ∀ h : UH, HW (mkw c0 c1 c2 c3 c4 c5 c6 c7 t5 c9 c10 c11 c12 c13) d h → Ends (EX D) (u_at kl_86) (85, [some (.ref a0), some (.int x1)], [], h) QQ := by
        intro h hW
        have hF := hK
        refine en_segs [(85, .iinc 1 1, []), (88, .goto (-78), [10])] (by decide +kernel) (y := (10, [some (.ref a0), some (.int (x1 + 1))], [], h)) rfl ?_
        exact (ih _ _ _ _ _ _ hF) _ rfl rfl rfl rfl  _ hW _ hQ
      have hF := hX
      refine en_if_eq (by decide +kernel : u_at kl_86 26 = some (.ifCond .eq 59, [85])) (fun b7 => ?_) (fun b7 => ?_)
      · replace hF := i_pos b7 hF
        obtain rfl := Option.some.inj hF
        exact j6 _ hW
      · replace hF := i_neg b7 hF
        refine en_segs [(29, .aload_n 0, [])] (by decide +kernel) (y := (30, [some (.ref a0), some (.int x1)], [.ref a0], h)) rfl ?_
        refine en_get (by decide +kernel : u_at kl_86 30 = some (.getfield 36, [8, 12])) hW ha0 (by decide) rfl ?_
        refine en_segs [(33, .aload_n 0, [])] (by decide +kernel) (y := (34, [some (.ref a0), some (.int x1)], [.ref a0, .ref (aP d 8 12 a0)], h)) rfl ?_
        refine en_get (by decide +kernel : u_at kl_86 34 = some (.getfield 42, [8, 0])) hW ha0 (by decide) rfl ?_
        refine en_get (by decide +kernel : u_at kl_86 37 = some (.getfield 90, [1, 5])) hW k2 (by decide) rfl ?_
        refine en_segs [(40, .iload_n 1, [])] (by decide +kernel) (y := (41, [some (.ref a0), some (.int x1)], [.int x1, .ref (aP d 1 5 (cR c8 0 a0)), .ref (aP d 8 12 a0)], h)) rfl ?_
        obtain ⟨v8, hv8, hF⟩ := ob_some hF
        refine en_iald (by decide +kernel : u_at kl_86 41 = some (.iaload, [])) hW k2 rfl (by decide) hv8 ?_
        refine en_segs [(42, .dup2, [])] (by decide +kernel) (y := (43, [some (.ref a0), some (.int x1)], [.int v8, .ref (aP d 8 12 a0), .int v8, .ref (aP d 8 12 a0)], h)) rfl ?_
        obtain ⟨v9, hv9, hF⟩ := ob_some hF
        refine en_iald (by decide +kernel : u_at kl_86 43 = some (.iaload, [])) hW ha0 rfl (by decide) hv9 ?_
        refine en_segs [(44, .iconst 1, []), (45, .aload_n 0, [])] (by decide +kernel) (y := (46, [some (.ref a0), some (.int x1)], [.ref a0, .int 1, .int v9, .int v8, .ref (aP d 8 12 a0)], h)) rfl ?_
        refine en_get (by decide +kernel : u_at kl_86 46 = some (.getfield 42, [8, 0])) hW ha0 (by decide) rfl ?_
        refine en_get (by decide +kernel : u_at kl_86 49 = some (.getfield 93, [1, 6])) hW k2 (by decide) rfl ?_
        refine en_segs [(52, .iload_n 1, [])] (by decide +kernel) (y := (53, [some (.ref a0), some (.int x1)], [.int x1, .ref (aP d 1 6 (cR c8 0 a0)), .int 1, .int v9, .int v8, .ref (aP d 8 12 a0)], h)) rfl ?_
        obtain ⟨v10, hv10, hF⟩ := ob_some hF
        refine en_iald (by decide +kernel : u_at kl_86 53 = some (.iaload, [])) hW k2 rfl (by decide) hv10 ?_
        refine en_segs [(54, .ishl, []), (55, .ior, [])] (by decide +kernel) (y := (56, [some (.ref a0), some (.int x1)], [.int (v9 ||| (1 <<< (v10 &&& 31))), .int v8, .ref (aP d 8 12 a0)], h)) rfl ?_
        obtain ⟨c8_11, hc8_11, hF⟩ := ob_some hF
        refine en_iast (by decide +kernel : u_at kl_86 56 = some (.iastore, [])) hW ha0 rfl (by decide) hc8_11 (fun h hW => ?_)
        have hW : HW (mkw c0 c1 c2 c3 c4 c5 c6 c7 c8_11 c9 c10 c11 c12 c13) d h := hW
        refine en_segs [(57, .aload_n 0, [])] (by decide +kernel) (y := (58, [some (.ref a0), some (.int x1)], [.ref a0], h)) rfl ?_
        refine en_get (by decide +kernel : u_at kl_86 58 = some (.getfield 36, [8, 12])) hW ha0 (by decide) rfl ?_
        refine en_segs [(61, .aload_n 0, [])] (by decide +kernel) (y := (62, [some (.ref a0), some (.int x1)], [.ref a0, .ref (aP d 8 12 a0)], h)) rfl ?_
        have k12 : aK d (cR c8_11 0 a0) = (0, 1, 0) := wf_obj hW ha0 (by decide) rfl
        refine en_get (by decide +kernel : u_at kl_86 62 = some (.getfield 42, [8, 0])) hW ha0 (by decide) rfl ?_
        refine en_get (by decide +kernel : u_at kl_86 65 = some (.getfield 93, [1, 6])) hW k12 (by decide) rfl ?_
        refine en_segs [(68, .iload_n 1, [])] (by decide +kernel) (y := (69, [some (.ref a0), some (.int x1)], [.int x1, .ref (aP d 1 6 (cR c8_11 0 a0)), .ref (aP d 8 12 a0)], h)) rfl ?_
        obtain ⟨v13, hv13, hF⟩ := ob_some hF
        refine en_iald (by decide +kernel : u_at kl_86 69 = some (.iaload, [])) hW k12 rfl (by decide) hv13 ?_
        refine en_segs [(70, .dup2, [])] (by decide +kernel) (y := (71, [some (.ref a0), some (.int x1)], [.int v13, .ref (aP d 8 12 a0), .int v13, .ref (aP d 8 12 a0)], h)) rfl ?_
        obtain ⟨v14, hv14, hF⟩ := ob_some hF
        refine en_iald (by decide +kernel : u_at kl_86 71 = some (.iaload, [])) hW ha0 rfl (by decide) hv14 ?_
        refine en_segs [(72, .iconst 1, []), (73, .aload_n 0, [])] (by decide +kernel) (y := (74, [some (.ref a0), some (.int x1)], [.ref a0, .int 1, .int v14, .int v13, .ref (aP d 8 12 a0)], h)) rfl ?_
        refine en_get (by decide +kernel : u_at kl_86 74 = some (.getfield 42, [8, 0])) hW ha0 (by decide) rfl ?_
        refine en_get (by decide +kernel : u_at kl_86 77 = some (.getfield 90, [1, 5])) hW k12 (by decide) rfl ?_
        refine en_segs [(80, .iload_n 1, [])] (by decide +kernel) (y := (81, [some (.ref a0), some (.int x1)], [.int x1, .ref (aP d 1 5 (cR c8_11 0 a0)), .int 1, .int v14, .int v13, .ref (aP d 8 12 a0)], h)) rfl ?_
        obtain ⟨v15, hv15, hF⟩ := ob_some hF
        refine en_iald (by decide +kernel : u_at kl_86 81 = some (.iaload, [])) hW k12 rfl (by decide) hv15 ?_
        refine en_segs [(82, .ishl, []), (83, .ior, [])] (by decide +kernel) (y := (84, [some (.ref a0), some (.int x1)], [.int (v14 ||| (1 <<< (v15 &&& 31))), .int v13, .ref (aP d 8 12 a0)], h)) rfl ?_
        obtain ⟨c8_16, hc8_16, hF⟩ := ob_some hF
        refine en_iast (by decide +kernel : u_at kl_86 84 = some (.iastore, [])) hW ha0 rfl (by decide) hc8_16 (fun h hW => ?_)
        have hW : HW (mkw c0 c1 c2 c3 c4 c5 c6 c7 c8_16 c9 c10 c11 c12 c13) d h := hW
        obtain rfl := Option.some.inj hF
        exact j6 _ hW
def F_86 (c1 : Cl) (c8 : Cl) (a0 : Nat) : Option Cl :=
  some (sA c8 12 a0 (filf 6 0 (cA c8 12 a0))) >>= fun c8_1 =>
  G_86 c1 a0 0 [0] [] [] c8_1
set_option maxRecDepth 100000 in
set_option maxHeartbeats 4000000 in
/-- HeadCounts$State.linkRooms -/
theorem e_86 {D : Nat} {c0 c1 c2 c3 c4 c5 c6 c7 c8 c9 c10 c11 c12 c13 : Cl} {d : Ad} {h : UH} {a0 : Nat} {r : Cl} (hD : 2 ≤ D) (hW : HW (mkw c0 c1 c2 c3 c4 c5 c6 c7 c8 c9 c10 c11 c12 c13) d h) (ha0 : aK d a0 = (0, 8, 0)) (hF : F_86 c1 c8 a0 = some r) : ∃ q, EX D 86 [.ref a0] h q ∧ q.1 = none ∧ HW (mkw c0 c1 c2 c3 c4 c5 c6 c7 r c9 c10 c11 c12 c13) d q.2 := by
  obtain ⟨D, rfl⟩ : ∃ E, D = E + 1 := ⟨D - 1, by omega⟩
  unfold F_86 at hF
  refine ex_in (kl := kl_86) (nL := 2) rfl (by decide +kernel) (Nat.le_of_ble_eq_true rfl) ?_
  obtain ⟨QQ, hQQ⟩ : ∃ QQ : UR → Prop, QQ = (fun q : UR => q.1 = none ∧ HW (mkw c0 c1 c2 c3 c4 c5 c6 c7 r c9 c10 c11 c12 c13) d q.2) := ⟨_, rfl⟩
  rw [← hQQ]
  have hQ : ∀ h' : UH, HW (mkw c0 c1 c2 c3 c4 c5 c6 c7 r c9 c10 c11 c12 c13) d h' → QQ (none, h') := fun h' p => by rw [hQQ]; exact ⟨rfl, p⟩
  clear hQQ
  show Ends (EX D) (u_at kl_86) (0, [some (.ref a0), none], [], h) QQ
  refine en_segs [(0, .aload_n 0, [])] (by decide +kernel) (y := (1, [some (.ref a0), none], [.ref a0], h)) rfl ?_
  refine en_get (by decide +kernel : u_at kl_86 1 = some (.getfield 36, [8, 12])) hW ha0 (by decide) rfl ?_
  refine en_segs [(4, .iconst 0, [])] (by decide +kernel) (y := (5, [some (.ref a0), none], [.int 0, .ref (aP d 8 12 a0)], h)) rfl ?_
  obtain ⟨c8_1, hc8_1, hF⟩ := ob_some hF
  refine en_sv (r := []) (by decide +kernel : u_at kl_86 5 = some (.invokestatic 70, [304, 2])) rfl rfl (Nat.le_of_ble_eq_true rfl) (e_fillI (D := D) (v := 0) (by omega) hW ha0 rfl (by decide)) (fun h hW => ?_)
  have hW : HW (mkw c0 c1 c2 c3 c4 c5 c6 c7 c8_1 c9 c10 c11 c12 c13) d h := by rw [← Option.some.inj hc8_1]; exact hW
  refine en_segs [(8, .iconst 0, []), (9, .istore_n 1, [])] (by decide +kernel) (y := (10, [some (.ref a0), some (.int 0)], [], h)) rfl ?_
  exact (g_86 (D := D) hD ha0 _ _ _ _ _ _ hF) _ rfl rfl rfl rfl  _ hW _ hQ
def F_84 (c8 : Cl) (a0 : Nat) (p1 : Int32) : Option Int32 :=
  ald (cA c8 7 a0) 6 p1 >>= fun v1 =>
  ((if v1 ≤ (cI c8 1 a0) then
  some 0
  else
  some 1) : Option (Int32)) >>= fun (t2 : Int32) =>
  zb t2 >>= fun z4 => some z4
set_option maxRecDepth 100000 in
set_option maxHeartbeats 4000000 in
/-- HeadCounts$State.isCounted -/
theorem e_84 {D : Nat} {c0 c1 c2 c3 c4 c5 c6 c7 c8 c9 c10 c11 c12 c13 : Cl} {d : Ad} {h : UH} {a0 : Nat} {p1 : Int32} {r : Int32} (hD : 1 ≤ D) (hW : HW (mkw c0 c1 c2 c3 c4 c5 c6 c7 c8 c9 c10 c11 c12 c13) d h) (ha0 : aK d a0 = (0, 8, 0)) (hF : F_84 c8 a0 p1 = some r) : ∃ q, EX D 84 [.ref a0, .int p1] h q ∧ q.1 = some (.int r) ∧ h = q.2 := by
  obtain ⟨D, rfl⟩ : ∃ E, D = E + 1 := ⟨D - 1, by omega⟩
  unfold F_84 at hF
  refine ex_in (kl := kl_84) (nL := 2) rfl (by decide +kernel) (Nat.le_of_ble_eq_true rfl) ?_
  obtain ⟨QQ, hQQ⟩ : ∃ QQ : UR → Prop, QQ = (fun q : UR => q.1 = some (.int r) ∧ h = q.2) := ⟨_, rfl⟩
  rw [← hQQ]
  have hQ : QQ (some (.int r), h) := by rw [hQQ]; exact ⟨rfl, rfl⟩
  clear hQQ
  show Ends (EX D) (u_at kl_84) (0, [some (.ref a0), some (.int p1)], [], h) QQ
  refine en_segs [(0, .aload_n 0, [])] (by decide +kernel) (y := (1, [some (.ref a0), some (.int p1)], [.ref a0], h)) rfl ?_
  refine en_get (by decide +kernel : u_at kl_84 1 = some (.getfield 46, [8, 1])) hW ha0 (by decide) rfl ?_
  refine en_segs [(4, .aload_n 0, [])] (by decide +kernel) (y := (5, [some (.ref a0), some (.int p1)], [.ref a0, .int (cI c8 1 a0)], h)) rfl ?_
  refine en_get (by decide +kernel : u_at kl_84 5 = some (.getfield 21, [8, 7])) hW ha0 (by decide) rfl ?_
  refine en_segs [(8, .iload_n 1, [])] (by decide +kernel) (y := (9, [some (.ref a0), some (.int p1)], [.int p1, .ref (aP d 8 7 a0), .int (cI c8 1 a0)], h)) rfl ?_
  obtain ⟨v1, hv1, hF⟩ := ob_some hF
  refine en_iald (by decide +kernel : u_at kl_84 9 = some (.iaload, [])) hW ha0 rfl (by decide) hv1 ?_
  obtain ⟨t2, hX, hK⟩ := ob_some hF
  have j3 : Ends (EX D) (u_at kl_84) (18, [some (.ref a0), some (.int p1)], [.int t2], h) QQ := by
    have hF := hK
    obtain ⟨z4, hz4, hF⟩ := ob_some hF
    obtain rfl := Option.some.inj hF
    exact en_retZ (by decide +kernel : u_at kl_84 18 = some (.ireturn, [1])) hz4 (hQ)
  have hF := hX
  refine en_ic_ge (by decide +kernel : u_at kl_84 10 = some (.if_icmp .ge 7, [17])) (fun b5 => ?_) (fun b5 => ?_)
  · replace hF := i_pos b5 hF
    refine en_segs [(17, .iconst 0, [])] (by decide +kernel) (y := (18, [some (.ref a0), some (.int p1)], [.int 0], h)) rfl ?_
    obtain rfl := Option.some.inj hF
    exact j3
  · replace hF := i_neg b5 hF
    refine en_segs [(13, .iconst 1, []), (14, .goto 4, [18])] (by decide +kernel) (y := (18, [some (.ref a0), some (.int p1)], [.int 1], h)) rfl ?_
    obtain rfl := Option.some.inj hF
    exact j3
def G_87 (c1 : Cl) (a0 : Nat) (lab : Nat) (xs : List Int32) (ys : List Int64) (zs : List Nat) (c8 : Cl) : Option Cl := match lab, xs, ys, zs with
  | 0, [x1], [], [] =>
    if (cI c1 2 (cR c8 0 a0)) ≤ x1 then
    G_87 c1 a0 1 [0] [] [] c8
    else
    F_84 c8 a0 x1 >>= fun r4 =>
    ((if r4 = 0 then
    some c8
    else
    ald (cA c8 4 a0) 6 x1 >>= fun v8 =>
    ald (cA c8 11 a0) 6 v8 >>= fun v9 =>
    ald (cA c1 8 (cR c8 0 a0)) 6 x1 >>= fun v10 =>
    ast c8 11 a0 6 v8 (v9 + v10) >>= fun c8_11 =>
    some c8_11) : Option (Cl)) >>= fun (t5 : Cl) =>
    G_87 c1 a0 0 [x1 + 1] [] [] t5
  | 1, [x1], [], [] =>
    if (cI c8 3 a0) ≤ x1 then
    some c8
    else
    ald (cA c8 8 a0) 6 x1 >>= fun v13 =>
    ald (cA c8 11 a0) 6 v13 >>= fun v14 =>
    ald (cA c8 9 a0) 6 x1 >>= fun v15 =>
    ast c8 11 a0 6 v13 (v14 + v15) >>= fun c8_16 =>
    G_87 c1 a0 1 [x1 + 1] [] [] c8_16
  | _, _, _, _ => none
partial_fixpoint
set_option maxRecDepth 100000 in
set_option maxHeartbeats 4000000 in
theorem g_87 {D : Nat} (hD : 2 ≤ D + 1) {c0 c1 c2 c3 c4 c5 c6 c7 c9 c10 c11 c12 c13 : Cl} {d : Ad} {a0 : Nat} (ha0 : aK d a0 = (0, 8, 0)) : ∀ (lab : Nat) (xs : List Int32) (ys : List Int64) (zs : List Nat) (c8 : Cl) (r : Cl), G_87 c1 a0 lab xs ys zs c8 = some r →
    (∀ (x1 : Int32), lab = 0 → xs = [x1] → ys = [] → zs = [] → ∀ h : UH, HW (mkw c0 c1 c2 c3 c4 c5 c6 c7 c8 c9 c10 c11 c12 c13) d h → ∀ QQ : UR → Prop, (∀ h' : UH, HW (mkw c0 c1 c2 c3 c4 c5 c6 c7 r c9 c10 c11 c12 c13) d h' → QQ (none, h')) → Ends (EX D) (u_at kl_87) (10, [some (.ref a0), some (.int x1)], [], h) QQ) ∧
    (∀ (x1 : Int32), lab = 1 → xs = [x1] → ys = [] → zs = [] → ∀ h : UH, HW (mkw c0 c1 c2 c3 c4 c5 c6 c7 c8 c9 c10 c11 c12 c13) d h → ∀ QQ : UR → Prop, (∀ h' : UH, HW (mkw c0 c1 c2 c3 c4 c5 c6 c7 r c9 c10 c11 c12 c13) d h' → QQ (none, h')) → Ends (EX D) (u_at kl_87) (60, [some (.ref a0), some (.int x1)], [], h) QQ) := by
  refine G_87.partial_correctness _ _ (motive := fun lab xs ys zs c8 r =>
    (∀ (x1 : Int32), lab = 0 → xs = [x1] → ys = [] → zs = [] → ∀ h : UH, HW (mkw c0 c1 c2 c3 c4 c5 c6 c7 c8 c9 c10 c11 c12 c13) d h → ∀ QQ : UR → Prop, (∀ h' : UH, HW (mkw c0 c1 c2 c3 c4 c5 c6 c7 r c9 c10 c11 c12 c13) d h' → QQ (none, h')) → Ends (EX D) (u_at kl_87) (10, [some (.ref a0), some (.int x1)], [], h) QQ) ∧
    (∀ (x1 : Int32), lab = 1 → xs = [x1] → ys = [] → zs = [] → ∀ h : UH, HW (mkw c0 c1 c2 c3 c4 c5 c6 c7 c8 c9 c10 c11 c12 c13) d h → ∀ QQ : UR → Prop, (∀ h' : UH, HW (mkw c0 c1 c2 c3 c4 c5 c6 c7 r c9 c10 c11 c12 c13) d h' → QQ (none, h')) → Ends (EX D) (u_at kl_87) (60, [some (.ref a0), some (.int x1)], [], h) QQ)) ?_
  intro G ih lab xs ys zs c8 r hF
  refine ⟨?_, ?_⟩
  · intro x1 e1 e2 e3 e4 h hW QQ hQ
    subst e1 e2 e3 e4
    refine en_segs [(10, .iload_n 1, []), (11, .aload_n 0, [])] (by decide +kernel) (y := (12, [some (.ref a0), some (.int x1)], [.ref a0, .int x1], h)) rfl ?_
    have k2 : aK d (cR c8 0 a0) = (0, 1, 0) := wf_obj hW ha0 (by decide) rfl
    refine en_get (by decide +kernel : u_at kl_87 12 = some (.getfield 42, [8, 0])) hW ha0 (by decide) rfl ?_
    refine en_get (by decide +kernel : u_at kl_87 15 = some (.getfield 96, [1, 2])) hW k2 (by decide) rfl ?_
    refine en_ic_ge (by decide +kernel : u_at kl_87 18 = some (.if_icmp .ge 40, [58])) (fun b3 => ?_) (fun b3 => ?_)
    · replace hF := i_pos b3 hF
      refine en_segs [(58, .iconst 0, []), (59, .istore_n 1, [])] (by decide +kernel) (y := (60, [some (.ref a0), some (.int 0)], [], h)) rfl ?_
      exact (ih _ _ _ _ _ _ hF).2 _ rfl rfl rfl rfl  _ hW _ hQ
    · replace hF := i_neg b3 hF
      refine en_segs [(21, .aload_n 0, []), (22, .iload_n 1, [])] (by decide +kernel) (y := (23, [some (.ref a0), some (.int x1)], [.int x1, .ref a0], h)) rfl ?_
      obtain ⟨r4, hr4, hF⟩ := ob_some hF
      refine en_vi (r := []) (by decide +kernel : u_at kl_87 23 = some (.invokevirtual 99, [84, 1, 8])) hW ha0 rfl rfl (Nat.le_of_ble_eq_true rfl) (e_84 (D := D) (by omega) hW ha0 hr4) (fun h' q => ?_)
      subst q
      obtain ⟨t5, hX, hK⟩ := ob_some hF
      have j6 : ∀ h : UH, HW (mkw c0 c1 c2 c3 c4 c5 c6 c7 t5 c9 c10 c11 c12 c13) d h → Ends (EX D) (u_at kl_87) (52, [some (.ref a0), some (.int x1)], [], h) QQ := by
        intro h hW
        have hF := hK
        refine en_segs [(52, .iinc 1 1, []), (55, .goto (-45), [10])] (by decide +kernel) (y := (10, [some (.ref a0), some (.int (x1 + 1))], [], h)) rfl ?_
        exact (ih _ _ _ _ _ _ hF).1 _ rfl rfl rfl rfl  _ hW _ hQ
      have hF := hX
      refine en_if_eq (by decide +kernel : u_at kl_87 26 = some (.ifCond .eq 26, [52])) (fun b7 => ?_) (fun b7 => ?_)
      · replace hF := i_pos b7 hF
        obtain rfl := Option.some.inj hF
        exact j6 _ hW
      · replace hF := i_neg b7 hF
        refine en_segs [(29, .aload_n 0, [])] (by decide +kernel) (y := (30, [some (.ref a0), some (.int x1)], [.ref a0], h)) rfl ?_
        refine en_get (by decide +kernel : u_at kl_87 30 = some (.getfield 33, [8, 11])) hW ha0 (by decide) rfl ?_
        refine en_segs [(33, .aload_n 0, [])] (by decide +kernel) (y := (34, [some (.ref a0), some (.int x1)], [.ref a0, .ref (aP d 8 11 a0)], h)) rfl ?_
        refine en_get (by decide +kernel : u_at kl_87 34 = some (.getfield 9, [8, 4])) hW ha0 (by decide) rfl ?_
        refine en_segs [(37, .iload_n 1, [])] (by decide +kernel) (y := (38, [some (.ref a0), some (.int x1)], [.int x1, .ref (aP d 8 4 a0), .ref (aP d 8 11 a0)], h)) rfl ?_
        obtain ⟨v8, hv8, hF⟩ := ob_some hF
        refine en_iald (by decide +kernel : u_at kl_87 38 = some (.iaload, [])) hW ha0 rfl (by decide) hv8 ?_
        refine en_segs [(39, .dup2, [])] (by decide +kernel) (y := (40, [some (.ref a0), some (.int x1)], [.int v8, .ref (aP d 8 11 a0), .int v8, .ref (aP d 8 11 a0)], h)) rfl ?_
        obtain ⟨v9, hv9, hF⟩ := ob_some hF
        refine en_iald (by decide +kernel : u_at kl_87 40 = some (.iaload, [])) hW ha0 rfl (by decide) hv9 ?_
        refine en_segs [(41, .aload_n 0, [])] (by decide +kernel) (y := (42, [some (.ref a0), some (.int x1)], [.ref a0, .int v9, .int v8, .ref (aP d 8 11 a0)], h)) rfl ?_
        refine en_get (by decide +kernel : u_at kl_87 42 = some (.getfield 42, [8, 0])) hW ha0 (by decide) rfl ?_
        refine en_get (by decide +kernel : u_at kl_87 45 = some (.getfield 102, [1, 8])) hW k2 (by decide) rfl ?_
        refine en_segs [(48, .iload_n 1, [])] (by decide +kernel) (y := (49, [some (.ref a0), some (.int x1)], [.int x1, .ref (aP d 1 8 (cR c8 0 a0)), .int v9, .int v8, .ref (aP d 8 11 a0)], h)) rfl ?_
        obtain ⟨v10, hv10, hF⟩ := ob_some hF
        refine en_iald (by decide +kernel : u_at kl_87 49 = some (.iaload, [])) hW k2 rfl (by decide) hv10 ?_
        refine en_segs [(50, .iadd, [])] (by decide +kernel) (y := (51, [some (.ref a0), some (.int x1)], [.int (v9 + v10), .int v8, .ref (aP d 8 11 a0)], h)) rfl ?_
        obtain ⟨c8_11, hc8_11, hF⟩ := ob_some hF
        refine en_iast (by decide +kernel : u_at kl_87 51 = some (.iastore, [])) hW ha0 rfl (by decide) hc8_11 (fun h hW => ?_)
        have hW : HW (mkw c0 c1 c2 c3 c4 c5 c6 c7 c8_11 c9 c10 c11 c12 c13) d h := hW
        obtain rfl := Option.some.inj hF
        exact j6 _ hW
  · intro x1 e1 e2 e3 e4 h hW QQ hQ
    subst e1 e2 e3 e4
    refine en_segs [(60, .iload_n 1, []), (61, .aload_n 0, [])] (by decide +kernel) (y := (62, [some (.ref a0), some (.int x1)], [.ref a0, .int x1], h)) rfl ?_
    refine en_get (by decide +kernel : u_at kl_87 62 = some (.getfield 58, [8, 3])) hW ha0 (by decide) rfl ?_
    refine en_ic_ge (by decide +kernel : u_at kl_87 65 = some (.if_icmp .ge 29, [94])) (fun b12 => ?_) (fun b12 => ?_)
    · replace hF := i_pos b12 hF
      obtain rfl := Option.some.inj hF
      exact en_ret (by decide +kernel : u_at kl_87 94 = some (.return_, [])) rfl (hQ _ hW)
    · replace hF := i_neg b12 hF
      refine en_segs [(68, .aload_n 0, [])] (by decide +kernel) (y := (69, [some (.ref a0), some (.int x1)], [.ref a0], h)) rfl ?_
      refine en_get (by decide +kernel : u_at kl_87 69 = some (.getfield 33, [8, 11])) hW ha0 (by decide) rfl ?_
      refine en_segs [(72, .aload_n 0, [])] (by decide +kernel) (y := (73, [some (.ref a0), some (.int x1)], [.ref a0, .ref (aP d 8 11 a0)], h)) rfl ?_
      refine en_get (by decide +kernel : u_at kl_87 73 = some (.getfield 24, [8, 8])) hW ha0 (by decide) rfl ?_
      refine en_segs [(76, .iload_n 1, [])] (by decide +kernel) (y := (77, [some (.ref a0), some (.int x1)], [.int x1, .ref (aP d 8 8 a0), .ref (aP d 8 11 a0)], h)) rfl ?_
      obtain ⟨v13, hv13, hF⟩ := ob_some hF
      refine en_iald (by decide +kernel : u_at kl_87 77 = some (.iaload, [])) hW ha0 rfl (by decide) hv13 ?_
      refine en_segs [(78, .dup2, [])] (by decide +kernel) (y := (79, [some (.ref a0), some (.int x1)], [.int v13, .ref (aP d 8 11 a0), .int v13, .ref (aP d 8 11 a0)], h)) rfl ?_
      obtain ⟨v14, hv14, hF⟩ := ob_some hF
      refine en_iald (by decide +kernel : u_at kl_87 79 = some (.iaload, [])) hW ha0 rfl (by decide) hv14 ?_
      refine en_segs [(80, .aload_n 0, [])] (by decide +kernel) (y := (81, [some (.ref a0), some (.int x1)], [.ref a0, .int v14, .int v13, .ref (aP d 8 11 a0)], h)) rfl ?_
      refine en_get (by decide +kernel : u_at kl_87 81 = some (.getfield 27, [8, 9])) hW ha0 (by decide) rfl ?_
      refine en_segs [(84, .iload_n 1, [])] (by decide +kernel) (y := (85, [some (.ref a0), some (.int x1)], [.int x1, .ref (aP d 8 9 a0), .int v14, .int v13, .ref (aP d 8 11 a0)], h)) rfl ?_
      obtain ⟨v15, hv15, hF⟩ := ob_some hF
      refine en_iald (by decide +kernel : u_at kl_87 85 = some (.iaload, [])) hW ha0 rfl (by decide) hv15 ?_
      refine en_segs [(86, .iadd, [])] (by decide +kernel) (y := (87, [some (.ref a0), some (.int x1)], [.int (v14 + v15), .int v13, .ref (aP d 8 11 a0)], h)) rfl ?_
      obtain ⟨c8_16, hc8_16, hF⟩ := ob_some hF
      refine en_iast (by decide +kernel : u_at kl_87 87 = some (.iastore, [])) hW ha0 rfl (by decide) hc8_16 (fun h hW => ?_)
      have hW : HW (mkw c0 c1 c2 c3 c4 c5 c6 c7 c8_16 c9 c10 c11 c12 c13) d h := hW
      refine en_segs [(88, .iinc 1 1, []), (91, .goto (-31), [60])] (by decide +kernel) (y := (60, [some (.ref a0), some (.int (x1 + 1))], [], h)) rfl ?_
      exact (ih _ _ _ _ _ _ hF).2 _ rfl rfl rfl rfl  _ hW _ hQ
def F_87 (c1 : Cl) (c8 : Cl) (a0 : Nat) : Option Cl :=
  some (sA c8 11 a0 (filf 6 0 (cA c8 11 a0))) >>= fun c8_1 =>
  G_87 c1 a0 0 [0] [] [] c8_1
set_option maxRecDepth 100000 in
set_option maxHeartbeats 4000000 in
/-- HeadCounts$State.recount -/
theorem e_87 {D : Nat} {c0 c1 c2 c3 c4 c5 c6 c7 c8 c9 c10 c11 c12 c13 : Cl} {d : Ad} {h : UH} {a0 : Nat} {r : Cl} (hD : 2 ≤ D) (hW : HW (mkw c0 c1 c2 c3 c4 c5 c6 c7 c8 c9 c10 c11 c12 c13) d h) (ha0 : aK d a0 = (0, 8, 0)) (hF : F_87 c1 c8 a0 = some r) : ∃ q, EX D 87 [.ref a0] h q ∧ q.1 = none ∧ HW (mkw c0 c1 c2 c3 c4 c5 c6 c7 r c9 c10 c11 c12 c13) d q.2 := by
  obtain ⟨D, rfl⟩ : ∃ E, D = E + 1 := ⟨D - 1, by omega⟩
  unfold F_87 at hF
  refine ex_in (kl := kl_87) (nL := 2) rfl (by decide +kernel) (Nat.le_of_ble_eq_true rfl) ?_
  obtain ⟨QQ, hQQ⟩ : ∃ QQ : UR → Prop, QQ = (fun q : UR => q.1 = none ∧ HW (mkw c0 c1 c2 c3 c4 c5 c6 c7 r c9 c10 c11 c12 c13) d q.2) := ⟨_, rfl⟩
  rw [← hQQ]
  have hQ : ∀ h' : UH, HW (mkw c0 c1 c2 c3 c4 c5 c6 c7 r c9 c10 c11 c12 c13) d h' → QQ (none, h') := fun h' p => by rw [hQQ]; exact ⟨rfl, p⟩
  clear hQQ
  show Ends (EX D) (u_at kl_87) (0, [some (.ref a0), none], [], h) QQ
  refine en_segs [(0, .aload_n 0, [])] (by decide +kernel) (y := (1, [some (.ref a0), none], [.ref a0], h)) rfl ?_
  refine en_get (by decide +kernel : u_at kl_87 1 = some (.getfield 33, [8, 11])) hW ha0 (by decide) rfl ?_
  refine en_segs [(4, .iconst 0, [])] (by decide +kernel) (y := (5, [some (.ref a0), none], [.int 0, .ref (aP d 8 11 a0)], h)) rfl ?_
  obtain ⟨c8_1, hc8_1, hF⟩ := ob_some hF
  refine en_sv (r := []) (by decide +kernel : u_at kl_87 5 = some (.invokestatic 70, [304, 2])) rfl rfl (Nat.le_of_ble_eq_true rfl) (e_fillI (D := D) (v := 0) (by omega) hW ha0 rfl (by decide)) (fun h hW => ?_)
  have hW : HW (mkw c0 c1 c2 c3 c4 c5 c6 c7 c8_1 c9 c10 c11 c12 c13) d h := by rw [← Option.some.inj hc8_1]; exact hW
  refine en_segs [(8, .iconst 0, []), (9, .istore_n 1, [])] (by decide +kernel) (y := (10, [some (.ref a0), some (.int 0)], [], h)) rfl ?_
  exact (g_87 (D := D) hD ha0 _ _ _ _ _ _ hF).1 _ rfl rfl rfl rfl  _ hW _ hQ
def F_88 (c8 : Cl) (a0 : Nat) : Option Cl :=
  irm (cI c8 1 a0) 10 >>= fun v1 =>
  cpi c8 c8 11 a0 6 13 a0 60 0 (v1 * 6) 6 >>= fun c8_2 =>
  some c8_2
set_option maxRecDepth 100000 in
set_option maxHeartbeats 4000000 in
/-- HeadCounts$State.keepCounts -/
theorem e_88 {D : Nat} {c0 c1 c2 c3 c4 c5 c6 c7 c8 c9 c10 c11 c12 c13 : Cl} {d : Ad} {h : UH} {a0 : Nat} {r : Cl} (hD : 1 ≤ D) (hW : HW (mkw c0 c1 c2 c3 c4 c5 c6 c7 c8 c9 c10 c11 c12 c13) d h) (ha0 : aK d a0 = (0, 8, 0)) (hF : F_88 c8 a0 = some r) : ∃ q, EX D 88 [.ref a0] h q ∧ q.1 = none ∧ HW (mkw c0 c1 c2 c3 c4 c5 c6 c7 r c9 c10 c11 c12 c13) d q.2 := by
  obtain ⟨D, rfl⟩ : ∃ E, D = E + 1 := ⟨D - 1, by omega⟩
  unfold F_88 at hF
  refine ex_in (kl := kl_88) (nL := 1) rfl (by decide +kernel) (Nat.le_of_ble_eq_true rfl) ?_
  obtain ⟨QQ, hQQ⟩ : ∃ QQ : UR → Prop, QQ = (fun q : UR => q.1 = none ∧ HW (mkw c0 c1 c2 c3 c4 c5 c6 c7 r c9 c10 c11 c12 c13) d q.2) := ⟨_, rfl⟩
  rw [← hQQ]
  have hQ : ∀ h' : UH, HW (mkw c0 c1 c2 c3 c4 c5 c6 c7 r c9 c10 c11 c12 c13) d h' → QQ (none, h') := fun h' p => by rw [hQQ]; exact ⟨rfl, p⟩
  clear hQQ
  show Ends (EX D) (u_at kl_88) (0, [some (.ref a0)], [], h) QQ
  refine en_segs [(0, .aload_n 0, [])] (by decide +kernel) (y := (1, [some (.ref a0)], [.ref a0], h)) rfl ?_
  refine en_get (by decide +kernel : u_at kl_88 1 = some (.getfield 33, [8, 11])) hW ha0 (by decide) rfl ?_
  refine en_segs [(4, .iconst 0, []), (5, .aload_n 0, [])] (by decide +kernel) (y := (6, [some (.ref a0)], [.ref a0, .int 0, .ref (aP d 8 11 a0)], h)) rfl ?_
  refine en_get (by decide +kernel : u_at kl_88 6 = some (.getfield 39, [8, 13])) hW ha0 (by decide) rfl ?_
  refine en_segs [(9, .aload_n 0, [])] (by decide +kernel) (y := (10, [some (.ref a0)], [.ref a0, .ref (aP d 8 13 a0), .int 0, .ref (aP d 8 11 a0)], h)) rfl ?_
  refine en_get (by decide +kernel : u_at kl_88 10 = some (.getfield 46, [8, 1])) hW ha0 (by decide) rfl ?_
  refine en_segs [(13, .bipush 10, [])] (by decide +kernel) (y := (15, [some (.ref a0)], [.int 10, .int (cI c8 1 a0), .ref (aP d 8 13 a0), .int 0, .ref (aP d 8 11 a0)], h)) rfl ?_
  obtain ⟨v1, hv1, hF⟩ := ob_some hF
  refine en_irem (by decide +kernel : u_at kl_88 15 = some (.irem, [])) hv1 ?_
  refine en_segs [(16, .bipush 6, []), (18, .imul, []), (19, .bipush 6, [])] (by decide +kernel) (y := (21, [some (.ref a0)], [.int 6, .int (v1 * 6), .ref (aP d 8 13 a0), .int 0, .ref (aP d 8 11 a0)], h)) rfl ?_
  obtain ⟨c8_2, hc8_2, hF⟩ := ob_some hF
  refine en_copy (by decide +kernel : u_at kl_88 21 = some (.invokestatic 64, [])) hW ha0 rfl (by decide) ha0 rfl (by decide) (Nat.le_of_ble_eq_true rfl) hc8_2 (fun h hW => ?_)
  have hW : HW (mkw c0 c1 c2 c3 c4 c5 c6 c7 c8_2 c9 c10 c11 c12 c13) d h := hW
  obtain rfl := Option.some.inj hF
  exact en_ret (by decide +kernel : u_at kl_88 24 = some (.return_, [])) rfl (hQ _ hW)
def F_81 (c1 : Cl) (c8 : Cl) (a0 : Nat) (a1 : Nat) : Option Cl :=
  some (sR c8 0 a0 a1) >>= fun c8_1 =>
  some (sI c8_1 1 a0 0) >>= fun c8_2 =>
  some (sI c8_2 2 a0 ((1 <<< ((cI c1 1 a1) &&& 31)) - 1)) >>= fun c8_3 =>
  some (sI c8_3 3 a0 0) >>= fun c8_4 =>
  cpi c1 c8_4 7 a1 6 4 a0 6 0 0 6 >>= fun c8_5 =>
  some (sA c8_5 5 a0 (filf 6 (-1) (cA c8_5 5 a0))) >>= fun c8_6 =>
  some (sA c8_6 6 a0 (filf 6 0 (cA c8_6 6 a0))) >>= fun c8_7 =>
  some (sA c8_7 7 a0 (filf 6 1000000 (cA c8_7 7 a0))) >>= fun c8_8 =>
  F_86 c1 c8_8 a0 >>= fun r9 =>
  F_87 c1 r9 a0 >>= fun r10 =>
  F_88 r10 a0 >>= fun r11 =>
  some r11
set_option maxRecDepth 100000 in
set_option maxHeartbeats 4000000 in
/-- HeadCounts$State.begin -/
theorem e_81 {D : Nat} {c0 c1 c2 c3 c4 c5 c6 c7 c8 c9 c10 c11 c12 c13 : Cl} {d : Ad} {h : UH} {a0 : Nat} {a1 : Nat} {r : Cl} (hD : 3 ≤ D) (hW : HW (mkw c0 c1 c2 c3 c4 c5 c6 c7 c8 c9 c10 c11 c12 c13) d h) (ha0 : aK d a0 = (0, 8, 0)) (ha1 : aK d a1 = (0, 1, 0)) (hF : F_81 c1 c8 a0 a1 = some r) : ∃ q, EX D 81 [.ref a0, .ref a1] h q ∧ q.1 = none ∧ HW (mkw c0 c1 c2 c3 c4 c5 c6 c7 r c9 c10 c11 c12 c13) d q.2 := by
  obtain ⟨D, rfl⟩ : ∃ E, D = E + 1 := ⟨D - 1, by omega⟩
  unfold F_81 at hF
  refine ex_in (kl := kl_81) (nL := 2) rfl (by decide +kernel) (Nat.le_of_ble_eq_true rfl) ?_
  obtain ⟨QQ, hQQ⟩ : ∃ QQ : UR → Prop, QQ = (fun q : UR => q.1 = none ∧ HW (mkw c0 c1 c2 c3 c4 c5 c6 c7 r c9 c10 c11 c12 c13) d q.2) := ⟨_, rfl⟩
  rw [← hQQ]
  have hQ : ∀ h' : UH, HW (mkw c0 c1 c2 c3 c4 c5 c6 c7 r c9 c10 c11 c12 c13) d h' → QQ (none, h') := fun h' p => by rw [hQQ]; exact ⟨rfl, p⟩
  clear hQQ
  show Ends (EX D) (u_at kl_81) (0, [some (.ref a0), some (.ref a1)], [], h) QQ
  refine en_segs [(0, .aload_n 0, []), (1, .aload_n 1, [])] (by decide +kernel) (y := (2, [some (.ref a0), some (.ref a1)], [.ref a1, .ref a0], h)) rfl ?_
  obtain ⟨c8_1, hc8_1, hF⟩ := ob_some hF
  refine en_putR (by decide +kernel : u_at kl_81 2 = some (.putfield 42, [8, 0, 3])) hW ha0 rfl (by decide) ha1 rfl (fun h hW => ?_)
  have hW : HW (mkw c0 c1 c2 c3 c4 c5 c6 c7 c8_1 c9 c10 c11 c12 c13) d h := by rw [← Option.some.inj hc8_1]; exact hW
  refine en_segs [(5, .aload_n 0, []), (6, .iconst 0, [])] (by decide +kernel) (y := (7, [some (.ref a0), some (.ref a1)], [.int 0, .ref a0], h)) rfl ?_
  obtain ⟨c8_2, hc8_2, hF⟩ := ob_some hF
  refine en_putI (by decide +kernel : u_at kl_81 7 = some (.putfield 46, [8, 1, 0])) hW ha0 rfl (by decide) rfl (fun h hW => ?_)
  have hW : HW (mkw c0 c1 c2 c3 c4 c5 c6 c7 c8_2 c9 c10 c11 c12 c13) d h := by rw [← Option.some.inj hc8_2]; exact hW
  refine en_segs [(10, .aload_n 0, []), (11, .iconst 1, []), (12, .aload_n 1, [])] (by decide +kernel) (y := (13, [some (.ref a0), some (.ref a1)], [.ref a1, .int 1, .ref a0], h)) rfl ?_
  refine en_get (by decide +kernel : u_at kl_81 13 = some (.getfield 50, [1, 1])) hW ha1 (by decide) rfl ?_
  refine en_segs [(16, .ishl, []), (17, .iconst 1, []), (18, .isub, [])] (by decide +kernel) (y := (19, [some (.ref a0), some (.ref a1)], [.int ((1 <<< ((cI c1 1 a1) &&& 31)) - 1), .ref a0], h)) rfl ?_
  obtain ⟨c8_3, hc8_3, hF⟩ := ob_some hF
  refine en_putI (by decide +kernel : u_at kl_81 19 = some (.putfield 55, [8, 2, 0])) hW ha0 rfl (by decide) rfl (fun h hW => ?_)
  have hW : HW (mkw c0 c1 c2 c3 c4 c5 c6 c7 c8_3 c9 c10 c11 c12 c13) d h := by rw [← Option.some.inj hc8_3]; exact hW
  refine en_segs [(22, .aload_n 0, []), (23, .iconst 0, [])] (by decide +kernel) (y := (24, [some (.ref a0), some (.ref a1)], [.int 0, .ref a0], h)) rfl ?_
  obtain ⟨c8_4, hc8_4, hF⟩ := ob_some hF
  refine en_putI (by decide +kernel : u_at kl_81 24 = some (.putfield 58, [8, 3, 0])) hW ha0 rfl (by decide) rfl (fun h hW => ?_)
  have hW : HW (mkw c0 c1 c2 c3 c4 c5 c6 c7 c8_4 c9 c10 c11 c12 c13) d h := by rw [← Option.some.inj hc8_4]; exact hW
  refine en_segs [(27, .aload_n 1, [])] (by decide +kernel) (y := (28, [some (.ref a0), some (.ref a1)], [.ref a1], h)) rfl ?_
  refine en_get (by decide +kernel : u_at kl_81 28 = some (.getfield 61, [1, 7])) hW ha1 (by decide) rfl ?_
  refine en_segs [(31, .iconst 0, []), (32, .aload_n 0, [])] (by decide +kernel) (y := (33, [some (.ref a0), some (.ref a1)], [.ref a0, .int 0, .ref (aP d 1 7 a1)], h)) rfl ?_
  refine en_get (by decide +kernel : u_at kl_81 33 = some (.getfield 9, [8, 4])) hW ha0 (by decide) rfl ?_
  refine en_segs [(36, .iconst 0, []), (37, .bipush 6, [])] (by decide +kernel) (y := (39, [some (.ref a0), some (.ref a1)], [.int 6, .int 0, .ref (aP d 8 4 a0), .int 0, .ref (aP d 1 7 a1)], h)) rfl ?_
  obtain ⟨c8_5, hc8_5, hF⟩ := ob_some hF
  refine en_copy (by decide +kernel : u_at kl_81 39 = some (.invokestatic 64, [])) hW ha1 rfl (by decide) ha0 rfl (by decide) (Nat.le_of_ble_eq_true rfl) hc8_5 (fun h hW => ?_)
  have hW : HW (mkw c0 c1 c2 c3 c4 c5 c6 c7 c8_5 c9 c10 c11 c12 c13) d h := hW
  refine en_segs [(42, .aload_n 0, [])] (by decide +kernel) (y := (43, [some (.ref a0), some (.ref a1)], [.ref a0], h)) rfl ?_
  refine en_get (by decide +kernel : u_at kl_81 43 = some (.getfield 15, [8, 5])) hW ha0 (by decide) rfl ?_
  refine en_segs [(46, .iconst (-1), [])] (by decide +kernel) (y := (47, [some (.ref a0), some (.ref a1)], [.int (-1), .ref (aP d 8 5 a0)], h)) rfl ?_
  obtain ⟨c8_6, hc8_6, hF⟩ := ob_some hF
  refine en_sv (r := []) (by decide +kernel : u_at kl_81 47 = some (.invokestatic 70, [304, 2])) rfl rfl (Nat.le_of_ble_eq_true rfl) (e_fillI (D := D) (v := (-1)) (by omega) hW ha0 rfl (by decide)) (fun h hW => ?_)
  have hW : HW (mkw c0 c1 c2 c3 c4 c5 c6 c7 c8_6 c9 c10 c11 c12 c13) d h := by rw [← Option.some.inj hc8_6]; exact hW
  refine en_segs [(50, .aload_n 0, [])] (by decide +kernel) (y := (51, [some (.ref a0), some (.ref a1)], [.ref a0], h)) rfl ?_
  refine en_get (by decide +kernel : u_at kl_81 51 = some (.getfield 18, [8, 6])) hW ha0 (by decide) rfl ?_
  refine en_segs [(54, .iconst 0, [])] (by decide +kernel) (y := (55, [some (.ref a0), some (.ref a1)], [.int 0, .ref (aP d 8 6 a0)], h)) rfl ?_
  obtain ⟨c8_7, hc8_7, hF⟩ := ob_some hF
  refine en_sv (r := []) (by decide +kernel : u_at kl_81 55 = some (.invokestatic 70, [304, 2])) rfl rfl (Nat.le_of_ble_eq_true rfl) (e_fillI (D := D) (v := 0) (by omega) hW ha0 rfl (by decide)) (fun h hW => ?_)
  have hW : HW (mkw c0 c1 c2 c3 c4 c5 c6 c7 c8_7 c9 c10 c11 c12 c13) d h := by rw [← Option.some.inj hc8_7]; exact hW
  refine en_segs [(58, .aload_n 0, [])] (by decide +kernel) (y := (59, [some (.ref a0), some (.ref a1)], [.ref a0], h)) rfl ?_
  refine en_get (by decide +kernel : u_at kl_81 59 = some (.getfield 21, [8, 7])) hW ha0 (by decide) rfl ?_
  refine en_segs [(62, .ldc 76, [1000000])] (by decide +kernel) (y := (64, [some (.ref a0), some (.ref a1)], [.int 1000000, .ref (aP d 8 7 a0)], h)) rfl ?_
  obtain ⟨c8_8, hc8_8, hF⟩ := ob_some hF
  refine en_sv (r := []) (by decide +kernel : u_at kl_81 64 = some (.invokestatic 70, [304, 2])) rfl rfl (Nat.le_of_ble_eq_true rfl) (e_fillI (D := D) (v := 1000000) (by omega) hW ha0 rfl (by decide)) (fun h hW => ?_)
  have hW : HW (mkw c0 c1 c2 c3 c4 c5 c6 c7 c8_8 c9 c10 c11 c12 c13) d h := by rw [← Option.some.inj hc8_8]; exact hW
  refine en_segs [(67, .aload_n 0, [])] (by decide +kernel) (y := (68, [some (.ref a0), some (.ref a1)], [.ref a0], h)) rfl ?_
  obtain ⟨r9, hr9, hF⟩ := ob_some hF
  refine en_vv (r := []) (by decide +kernel : u_at kl_81 68 = some (.invokevirtual 77, [86, 0, 8])) hW ha0 rfl rfl (Nat.le_of_ble_eq_true rfl) (e_86 (D := D) (by omega) hW ha0 hr9) (fun h hW => ?_)
  have hW : HW (mkw c0 c1 c2 c3 c4 c5 c6 c7 r9 c9 c10 c11 c12 c13) d h := hW
  refine en_segs [(71, .aload_n 0, [])] (by decide +kernel) (y := (72, [some (.ref a0), some (.ref a1)], [.ref a0], h)) rfl ?_
  obtain ⟨r10, hr10, hF⟩ := ob_some hF
  refine en_vv (r := []) (by decide +kernel : u_at kl_81 72 = some (.invokevirtual 80, [87, 0, 8])) hW ha0 rfl rfl (Nat.le_of_ble_eq_true rfl) (e_87 (D := D) (by omega) hW ha0 hr10) (fun h hW => ?_)
  have hW : HW (mkw c0 c1 c2 c3 c4 c5 c6 c7 r10 c9 c10 c11 c12 c13) d h := hW
  refine en_segs [(75, .aload_n 0, [])] (by decide +kernel) (y := (76, [some (.ref a0), some (.ref a1)], [.ref a0], h)) rfl ?_
  obtain ⟨r11, hr11, hF⟩ := ob_some hF
  refine en_vv (r := []) (by decide +kernel : u_at kl_81 76 = some (.invokevirtual 83, [88, 0, 8])) hW ha0 rfl rfl (Nat.le_of_ble_eq_true rfl) (e_88 (D := D) (by omega) hW ha0 hr11) (fun h hW => ?_)
  have hW : HW (mkw c0 c1 c2 c3 c4 c5 c6 c7 r11 c9 c10 c11 c12 c13) d h := hW
  obtain rfl := Option.some.inj hF
  exact en_ret (by decide +kernel : u_at kl_81 79 = some (.return_, [])) rfl (hQ _ hW)
def F_82 (c8 : Cl) (a0 : Nat) (a1 : Nat) : Option Cl :=
  some (sR c8 0 a0 (cR c8 0 a1)) >>= fun c8_2 =>
  some (sI c8_2 1 a0 (cI c8_2 1 a1)) >>= fun c8_3 =>
  some (sI c8_3 2 a0 (cI c8_3 2 a1)) >>= fun c8_4 =>
  some (sI c8_4 3 a0 (cI c8_4 3 a1)) >>= fun c8_5 =>
  cpi c8_5 c8_5 4 a1 6 4 a0 6 0 0 6 >>= fun c8_6 =>
  cpi c8_6 c8_6 5 a1 6 5 a0 6 0 0 6 >>= fun c8_7 =>
  cpi c8_7 c8_7 6 a1 6 6 a0 6 0 0 6 >>= fun c8_8 =>
  cpi c8_8 c8_8 7 a1 6 7 a0 6 0 0 6 >>= fun c8_9 =>
  cpi c8_9 c8_9 8 a1 6 8 a0 6 0 0 6 >>= fun c8_10 =>
  cpi c8_10 c8_10 9 a1 6 9 a0 6 0 0 6 >>= fun c8_11 =>
  cpi c8_11 c8_11 10 a1 6 10 a0 6 0 0 6 >>= fun c8_12 =>
  cpi c8_12 c8_12 11 a1 6 11 a0 6 0 0 6 >>= fun c8_13 =>
  cpi c8_13 c8_13 12 a1 6 12 a0 6 0 0 6 >>= fun c8_14 =>
  cpi c8_14 c8_14 13 a1 60 13 a0 60 0 0 60 >>= fun c8_15 =>
  some c8_15
set_option maxRecDepth 100000 in
set_option maxHeartbeats 4000000 in
/-- HeadCounts$State.copyFrom -/
theorem e_82 {D : Nat} {c0 c1 c2 c3 c4 c5 c6 c7 c8 c9 c10 c11 c12 c13 : Cl} {d : Ad} {h : UH} {a0 : Nat} {a1 : Nat} {r : Cl} (hD : 1 ≤ D) (hW : HW (mkw c0 c1 c2 c3 c4 c5 c6 c7 c8 c9 c10 c11 c12 c13) d h) (ha0 : aK d a0 = (0, 8, 0)) (ha1 : aK d a1 = (0, 8, 0)) (hF : F_82 c8 a0 a1 = some r) : ∃ q, EX D 82 [.ref a0, .ref a1] h q ∧ q.1 = none ∧ HW (mkw c0 c1 c2 c3 c4 c5 c6 c7 r c9 c10 c11 c12 c13) d q.2 := by
  obtain ⟨D, rfl⟩ : ∃ E, D = E + 1 := ⟨D - 1, by omega⟩
  unfold F_82 at hF
  refine ex_in (kl := kl_82) (nL := 2) rfl (by decide +kernel) (Nat.le_of_ble_eq_true rfl) ?_
  obtain ⟨QQ, hQQ⟩ : ∃ QQ : UR → Prop, QQ = (fun q : UR => q.1 = none ∧ HW (mkw c0 c1 c2 c3 c4 c5 c6 c7 r c9 c10 c11 c12 c13) d q.2) := ⟨_, rfl⟩
  rw [← hQQ]
  have hQ : ∀ h' : UH, HW (mkw c0 c1 c2 c3 c4 c5 c6 c7 r c9 c10 c11 c12 c13) d h' → QQ (none, h') := fun h' p => by rw [hQQ]; exact ⟨rfl, p⟩
  clear hQQ
  show Ends (EX D) (u_at kl_82) (0, [some (.ref a0), some (.ref a1)], [], h) QQ
  refine en_segs [(0, .aload_n 0, []), (1, .aload_n 1, [])] (by decide +kernel) (y := (2, [some (.ref a0), some (.ref a1)], [.ref a1, .ref a0], h)) rfl ?_
  have k1 : aK d (cR c8 0 a1) = (0, 1, 0) := wf_obj hW ha1 (by decide) rfl
  refine en_get (by decide +kernel : u_at kl_82 2 = some (.getfield 42, [8, 0])) hW ha1 (by decide) rfl ?_
  obtain ⟨c8_2, hc8_2, hF⟩ := ob_some hF
  refine en_putR (by decide +kernel : u_at kl_82 5 = some (.putfield 42, [8, 0, 3])) hW ha0 rfl (by decide) k1 rfl (fun h hW => ?_)
  have hW : HW (mkw c0 c1 c2 c3 c4 c5 c6 c7 c8_2 c9 c10 c11 c12 c13) d h := by rw [← Option.some.inj hc8_2]; exact hW
  refine en_segs [(8, .aload_n 0, []), (9, .aload_n 1, [])] (by decide +kernel) (y := (10, [some (.ref a0), some (.ref a1)], [.ref a1, .ref a0], h)) rfl ?_
  refine en_get (by decide +kernel : u_at kl_82 10 = some (.getfield 46, [8, 1])) hW ha1 (by decide) rfl ?_
  obtain ⟨c8_3, hc8_3, hF⟩ := ob_some hF
  refine en_putI (by decide +kernel : u_at kl_82 13 = some (.putfield 46, [8, 1, 0])) hW ha0 rfl (by decide) rfl (fun h hW => ?_)
  have hW : HW (mkw c0 c1 c2 c3 c4 c5 c6 c7 c8_3 c9 c10 c11 c12 c13) d h := by rw [← Option.some.inj hc8_3]; exact hW
  refine en_segs [(16, .aload_n 0, []), (17, .aload_n 1, [])] (by decide +kernel) (y := (18, [some (.ref a0), some (.ref a1)], [.ref a1, .ref a0], h)) rfl ?_
  refine en_get (by decide +kernel : u_at kl_82 18 = some (.getfield 55, [8, 2])) hW ha1 (by decide) rfl ?_
  obtain ⟨c8_4, hc8_4, hF⟩ := ob_some hF
  refine en_putI (by decide +kernel : u_at kl_82 21 = some (.putfield 55, [8, 2, 0])) hW ha0 rfl (by decide) rfl (fun h hW => ?_)
  have hW : HW (mkw c0 c1 c2 c3 c4 c5 c6 c7 c8_4 c9 c10 c11 c12 c13) d h := by rw [← Option.some.inj hc8_4]; exact hW
  refine en_segs [(24, .aload_n 0, []), (25, .aload_n 1, [])] (by decide +kernel) (y := (26, [some (.ref a0), some (.ref a1)], [.ref a1, .ref a0], h)) rfl ?_
  refine en_get (by decide +kernel : u_at kl_82 26 = some (.getfield 58, [8, 3])) hW ha1 (by decide) rfl ?_
  obtain ⟨c8_5, hc8_5, hF⟩ := ob_some hF
  refine en_putI (by decide +kernel : u_at kl_82 29 = some (.putfield 58, [8, 3, 0])) hW ha0 rfl (by decide) rfl (fun h hW => ?_)
  have hW : HW (mkw c0 c1 c2 c3 c4 c5 c6 c7 c8_5 c9 c10 c11 c12 c13) d h := by rw [← Option.some.inj hc8_5]; exact hW
  refine en_segs [(32, .aload_n 1, [])] (by decide +kernel) (y := (33, [some (.ref a0), some (.ref a1)], [.ref a1], h)) rfl ?_
  refine en_get (by decide +kernel : u_at kl_82 33 = some (.getfield 9, [8, 4])) hW ha1 (by decide) rfl ?_
  refine en_segs [(36, .iconst 0, []), (37, .aload_n 0, [])] (by decide +kernel) (y := (38, [some (.ref a0), some (.ref a1)], [.ref a0, .int 0, .ref (aP d 8 4 a1)], h)) rfl ?_
  refine en_get (by decide +kernel : u_at kl_82 38 = some (.getfield 9, [8, 4])) hW ha0 (by decide) rfl ?_
  refine en_segs [(41, .iconst 0, []), (42, .bipush 6, [])] (by decide +kernel) (y := (44, [some (.ref a0), some (.ref a1)], [.int 6, .int 0, .ref (aP d 8 4 a0), .int 0, .ref (aP d 8 4 a1)], h)) rfl ?_
  obtain ⟨c8_6, hc8_6, hF⟩ := ob_some hF
  refine en_copy (by decide +kernel : u_at kl_82 44 = some (.invokestatic 64, [])) hW ha1 rfl (by decide) ha0 rfl (by decide) (Nat.le_of_ble_eq_true rfl) hc8_6 (fun h hW => ?_)
  have hW : HW (mkw c0 c1 c2 c3 c4 c5 c6 c7 c8_6 c9 c10 c11 c12 c13) d h := hW
  refine en_segs [(47, .aload_n 1, [])] (by decide +kernel) (y := (48, [some (.ref a0), some (.ref a1)], [.ref a1], h)) rfl ?_
  refine en_get (by decide +kernel : u_at kl_82 48 = some (.getfield 15, [8, 5])) hW ha1 (by decide) rfl ?_
  refine en_segs [(51, .iconst 0, []), (52, .aload_n 0, [])] (by decide +kernel) (y := (53, [some (.ref a0), some (.ref a1)], [.ref a0, .int 0, .ref (aP d 8 5 a1)], h)) rfl ?_
  refine en_get (by decide +kernel : u_at kl_82 53 = some (.getfield 15, [8, 5])) hW ha0 (by decide) rfl ?_
  refine en_segs [(56, .iconst 0, []), (57, .bipush 6, [])] (by decide +kernel) (y := (59, [some (.ref a0), some (.ref a1)], [.int 6, .int 0, .ref (aP d 8 5 a0), .int 0, .ref (aP d 8 5 a1)], h)) rfl ?_
  obtain ⟨c8_7, hc8_7, hF⟩ := ob_some hF
  refine en_copy (by decide +kernel : u_at kl_82 59 = some (.invokestatic 64, [])) hW ha1 rfl (by decide) ha0 rfl (by decide) (Nat.le_of_ble_eq_true rfl) hc8_7 (fun h hW => ?_)
  have hW : HW (mkw c0 c1 c2 c3 c4 c5 c6 c7 c8_7 c9 c10 c11 c12 c13) d h := hW
  refine en_segs [(62, .aload_n 1, [])] (by decide +kernel) (y := (63, [some (.ref a0), some (.ref a1)], [.ref a1], h)) rfl ?_
  refine en_get (by decide +kernel : u_at kl_82 63 = some (.getfield 18, [8, 6])) hW ha1 (by decide) rfl ?_
  refine en_segs [(66, .iconst 0, []), (67, .aload_n 0, [])] (by decide +kernel) (y := (68, [some (.ref a0), some (.ref a1)], [.ref a0, .int 0, .ref (aP d 8 6 a1)], h)) rfl ?_
  refine en_get (by decide +kernel : u_at kl_82 68 = some (.getfield 18, [8, 6])) hW ha0 (by decide) rfl ?_
  refine en_segs [(71, .iconst 0, []), (72, .bipush 6, [])] (by decide +kernel) (y := (74, [some (.ref a0), some (.ref a1)], [.int 6, .int 0, .ref (aP d 8 6 a0), .int 0, .ref (aP d 8 6 a1)], h)) rfl ?_
  obtain ⟨c8_8, hc8_8, hF⟩ := ob_some hF
  refine en_copy (by decide +kernel : u_at kl_82 74 = some (.invokestatic 64, [])) hW ha1 rfl (by decide) ha0 rfl (by decide) (Nat.le_of_ble_eq_true rfl) hc8_8 (fun h hW => ?_)
  have hW : HW (mkw c0 c1 c2 c3 c4 c5 c6 c7 c8_8 c9 c10 c11 c12 c13) d h := hW
  refine en_segs [(77, .aload_n 1, [])] (by decide +kernel) (y := (78, [some (.ref a0), some (.ref a1)], [.ref a1], h)) rfl ?_
  refine en_get (by decide +kernel : u_at kl_82 78 = some (.getfield 21, [8, 7])) hW ha1 (by decide) rfl ?_
  refine en_segs [(81, .iconst 0, []), (82, .aload_n 0, [])] (by decide +kernel) (y := (83, [some (.ref a0), some (.ref a1)], [.ref a0, .int 0, .ref (aP d 8 7 a1)], h)) rfl ?_
  refine en_get (by decide +kernel : u_at kl_82 83 = some (.getfield 21, [8, 7])) hW ha0 (by decide) rfl ?_
  refine en_segs [(86, .iconst 0, []), (87, .bipush 6, [])] (by decide +kernel) (y := (89, [some (.ref a0), some (.ref a1)], [.int 6, .int 0, .ref (aP d 8 7 a0), .int 0, .ref (aP d 8 7 a1)], h)) rfl ?_
  obtain ⟨c8_9, hc8_9, hF⟩ := ob_some hF
  refine en_copy (by decide +kernel : u_at kl_82 89 = some (.invokestatic 64, [])) hW ha1 rfl (by decide) ha0 rfl (by decide) (Nat.le_of_ble_eq_true rfl) hc8_9 (fun h hW => ?_)
  have hW : HW (mkw c0 c1 c2 c3 c4 c5 c6 c7 c8_9 c9 c10 c11 c12 c13) d h := hW
  refine en_segs [(92, .aload_n 1, [])] (by decide +kernel) (y := (93, [some (.ref a0), some (.ref a1)], [.ref a1], h)) rfl ?_
  refine en_get (by decide +kernel : u_at kl_82 93 = some (.getfield 24, [8, 8])) hW ha1 (by decide) rfl ?_
  refine en_segs [(96, .iconst 0, []), (97, .aload_n 0, [])] (by decide +kernel) (y := (98, [some (.ref a0), some (.ref a1)], [.ref a0, .int 0, .ref (aP d 8 8 a1)], h)) rfl ?_
  refine en_get (by decide +kernel : u_at kl_82 98 = some (.getfield 24, [8, 8])) hW ha0 (by decide) rfl ?_
  refine en_segs [(101, .iconst 0, []), (102, .bipush 6, [])] (by decide +kernel) (y := (104, [some (.ref a0), some (.ref a1)], [.int 6, .int 0, .ref (aP d 8 8 a0), .int 0, .ref (aP d 8 8 a1)], h)) rfl ?_
  obtain ⟨c8_10, hc8_10, hF⟩ := ob_some hF
  refine en_copy (by decide +kernel : u_at kl_82 104 = some (.invokestatic 64, [])) hW ha1 rfl (by decide) ha0 rfl (by decide) (Nat.le_of_ble_eq_true rfl) hc8_10 (fun h hW => ?_)
  have hW : HW (mkw c0 c1 c2 c3 c4 c5 c6 c7 c8_10 c9 c10 c11 c12 c13) d h := hW
  refine en_segs [(107, .aload_n 1, [])] (by decide +kernel) (y := (108, [some (.ref a0), some (.ref a1)], [.ref a1], h)) rfl ?_
  refine en_get (by decide +kernel : u_at kl_82 108 = some (.getfield 27, [8, 9])) hW ha1 (by decide) rfl ?_
  refine en_segs [(111, .iconst 0, []), (112, .aload_n 0, [])] (by decide +kernel) (y := (113, [some (.ref a0), some (.ref a1)], [.ref a0, .int 0, .ref (aP d 8 9 a1)], h)) rfl ?_
  refine en_get (by decide +kernel : u_at kl_82 113 = some (.getfield 27, [8, 9])) hW ha0 (by decide) rfl ?_
  refine en_segs [(116, .iconst 0, []), (117, .bipush 6, [])] (by decide +kernel) (y := (119, [some (.ref a0), some (.ref a1)], [.int 6, .int 0, .ref (aP d 8 9 a0), .int 0, .ref (aP d 8 9 a1)], h)) rfl ?_
  obtain ⟨c8_11, hc8_11, hF⟩ := ob_some hF
  refine en_copy (by decide +kernel : u_at kl_82 119 = some (.invokestatic 64, [])) hW ha1 rfl (by decide) ha0 rfl (by decide) (Nat.le_of_ble_eq_true rfl) hc8_11 (fun h hW => ?_)
  have hW : HW (mkw c0 c1 c2 c3 c4 c5 c6 c7 c8_11 c9 c10 c11 c12 c13) d h := hW
  refine en_segs [(122, .aload_n 1, [])] (by decide +kernel) (y := (123, [some (.ref a0), some (.ref a1)], [.ref a1], h)) rfl ?_
  refine en_get (by decide +kernel : u_at kl_82 123 = some (.getfield 30, [8, 10])) hW ha1 (by decide) rfl ?_
  refine en_segs [(126, .iconst 0, []), (127, .aload_n 0, [])] (by decide +kernel) (y := (128, [some (.ref a0), some (.ref a1)], [.ref a0, .int 0, .ref (aP d 8 10 a1)], h)) rfl ?_
  refine en_get (by decide +kernel : u_at kl_82 128 = some (.getfield 30, [8, 10])) hW ha0 (by decide) rfl ?_
  refine en_segs [(131, .iconst 0, []), (132, .bipush 6, [])] (by decide +kernel) (y := (134, [some (.ref a0), some (.ref a1)], [.int 6, .int 0, .ref (aP d 8 10 a0), .int 0, .ref (aP d 8 10 a1)], h)) rfl ?_
  obtain ⟨c8_12, hc8_12, hF⟩ := ob_some hF
  refine en_copy (by decide +kernel : u_at kl_82 134 = some (.invokestatic 64, [])) hW ha1 rfl (by decide) ha0 rfl (by decide) (Nat.le_of_ble_eq_true rfl) hc8_12 (fun h hW => ?_)
  have hW : HW (mkw c0 c1 c2 c3 c4 c5 c6 c7 c8_12 c9 c10 c11 c12 c13) d h := hW
  refine en_segs [(137, .aload_n 1, [])] (by decide +kernel) (y := (138, [some (.ref a0), some (.ref a1)], [.ref a1], h)) rfl ?_
  refine en_get (by decide +kernel : u_at kl_82 138 = some (.getfield 33, [8, 11])) hW ha1 (by decide) rfl ?_
  refine en_segs [(141, .iconst 0, []), (142, .aload_n 0, [])] (by decide +kernel) (y := (143, [some (.ref a0), some (.ref a1)], [.ref a0, .int 0, .ref (aP d 8 11 a1)], h)) rfl ?_
  refine en_get (by decide +kernel : u_at kl_82 143 = some (.getfield 33, [8, 11])) hW ha0 (by decide) rfl ?_
  refine en_segs [(146, .iconst 0, []), (147, .bipush 6, [])] (by decide +kernel) (y := (149, [some (.ref a0), some (.ref a1)], [.int 6, .int 0, .ref (aP d 8 11 a0), .int 0, .ref (aP d 8 11 a1)], h)) rfl ?_
  obtain ⟨c8_13, hc8_13, hF⟩ := ob_some hF
  refine en_copy (by decide +kernel : u_at kl_82 149 = some (.invokestatic 64, [])) hW ha1 rfl (by decide) ha0 rfl (by decide) (Nat.le_of_ble_eq_true rfl) hc8_13 (fun h hW => ?_)
  have hW : HW (mkw c0 c1 c2 c3 c4 c5 c6 c7 c8_13 c9 c10 c11 c12 c13) d h := hW
  refine en_segs [(152, .aload_n 1, [])] (by decide +kernel) (y := (153, [some (.ref a0), some (.ref a1)], [.ref a1], h)) rfl ?_
  refine en_get (by decide +kernel : u_at kl_82 153 = some (.getfield 36, [8, 12])) hW ha1 (by decide) rfl ?_
  refine en_segs [(156, .iconst 0, []), (157, .aload_n 0, [])] (by decide +kernel) (y := (158, [some (.ref a0), some (.ref a1)], [.ref a0, .int 0, .ref (aP d 8 12 a1)], h)) rfl ?_
  refine en_get (by decide +kernel : u_at kl_82 158 = some (.getfield 36, [8, 12])) hW ha0 (by decide) rfl ?_
  refine en_segs [(161, .iconst 0, []), (162, .bipush 6, [])] (by decide +kernel) (y := (164, [some (.ref a0), some (.ref a1)], [.int 6, .int 0, .ref (aP d 8 12 a0), .int 0, .ref (aP d 8 12 a1)], h)) rfl ?_
  obtain ⟨c8_14, hc8_14, hF⟩ := ob_some hF
  refine en_copy (by decide +kernel : u_at kl_82 164 = some (.invokestatic 64, [])) hW ha1 rfl (by decide) ha0 rfl (by decide) (Nat.le_of_ble_eq_true rfl) hc8_14 (fun h hW => ?_)
  have hW : HW (mkw c0 c1 c2 c3 c4 c5 c6 c7 c8_14 c9 c10 c11 c12 c13) d h := hW
  refine en_segs [(167, .aload_n 1, [])] (by decide +kernel) (y := (168, [some (.ref a0), some (.ref a1)], [.ref a1], h)) rfl ?_
  refine en_get (by decide +kernel : u_at kl_82 168 = some (.getfield 39, [8, 13])) hW ha1 (by decide) rfl ?_
  refine en_segs [(171, .iconst 0, []), (172, .aload_n 0, [])] (by decide +kernel) (y := (173, [some (.ref a0), some (.ref a1)], [.ref a0, .int 0, .ref (aP d 8 13 a1)], h)) rfl ?_
  refine en_get (by decide +kernel : u_at kl_82 173 = some (.getfield 39, [8, 13])) hW ha0 (by decide) rfl ?_
  refine en_segs [(176, .iconst 0, []), (177, .bipush 60, [])] (by decide +kernel) (y := (179, [some (.ref a0), some (.ref a1)], [.int 60, .int 0, .ref (aP d 8 13 a0), .int 0, .ref (aP d 8 13 a1)], h)) rfl ?_
  obtain ⟨c8_15, hc8_15, hF⟩ := ob_some hF
  refine en_copy (by decide +kernel : u_at kl_82 179 = some (.invokestatic 64, [])) hW ha1 rfl (by decide) ha0 rfl (by decide) (Nat.le_of_ble_eq_true rfl) hc8_15 (fun h hW => ?_)
  have hW : HW (mkw c0 c1 c2 c3 c4 c5 c6 c7 c8_15 c9 c10 c11 c12 c13) d h := hW
  obtain rfl := Option.some.inj hF
  exact en_ret (by decide +kernel : u_at kl_82 182 = some (.return_, [])) rfl (hQ _ hW)
def F_89 (c1 : Cl) (c8 : Cl) (a0 : Nat) (p1 : Int32) : Option Cl :=
  some (sI c8 2 a0 ((cI c8 2 a0) ^^^ (1 <<< (p1 &&& 31)))) >>= fun c8_1 =>
  F_86 c1 c8_1 a0 >>= fun r2 =>
  some r2
set_option maxRecDepth 100000 in
set_option maxHeartbeats 4000000 in
/-- HeadCounts$State.turnDoor -/
theorem e_89 {D : Nat} {c0 c1 c2 c3 c4 c5 c6 c7 c8 c9 c10 c11 c12 c13 : Cl} {d : Ad} {h : UH} {a0 : Nat} {p1 : Int32} {r : Cl} (hD : 3 ≤ D) (hW : HW (mkw c0 c1 c2 c3 c4 c5 c6 c7 c8 c9 c10 c11 c12 c13) d h) (ha0 : aK d a0 = (0, 8, 0)) (hF : F_89 c1 c8 a0 p1 = some r) : ∃ q, EX D 89 [.ref a0, .int p1] h q ∧ q.1 = none ∧ HW (mkw c0 c1 c2 c3 c4 c5 c6 c7 r c9 c10 c11 c12 c13) d q.2 := by
  obtain ⟨D, rfl⟩ : ∃ E, D = E + 1 := ⟨D - 1, by omega⟩
  unfold F_89 at hF
  refine ex_in (kl := kl_89) (nL := 2) rfl (by decide +kernel) (Nat.le_of_ble_eq_true rfl) ?_
  obtain ⟨QQ, hQQ⟩ : ∃ QQ : UR → Prop, QQ = (fun q : UR => q.1 = none ∧ HW (mkw c0 c1 c2 c3 c4 c5 c6 c7 r c9 c10 c11 c12 c13) d q.2) := ⟨_, rfl⟩
  rw [← hQQ]
  have hQ : ∀ h' : UH, HW (mkw c0 c1 c2 c3 c4 c5 c6 c7 r c9 c10 c11 c12 c13) d h' → QQ (none, h') := fun h' p => by rw [hQQ]; exact ⟨rfl, p⟩
  clear hQQ
  show Ends (EX D) (u_at kl_89) (0, [some (.ref a0), some (.int p1)], [], h) QQ
  refine en_segs [(0, .aload_n 0, []), (1, .dup, [])] (by decide +kernel) (y := (2, [some (.ref a0), some (.int p1)], [.ref a0, .ref a0], h)) rfl ?_
  refine en_get (by decide +kernel : u_at kl_89 2 = some (.getfield 55, [8, 2])) hW ha0 (by decide) rfl ?_
  refine en_segs [(5, .iconst 1, []), (6, .iload_n 1, []), (7, .ishl, []), (8, .ixor, [])] (by decide +kernel) (y := (9, [some (.ref a0), some (.int p1)], [.int ((cI c8 2 a0) ^^^ (1 <<< (p1 &&& 31))), .ref a0], h)) rfl ?_
  obtain ⟨c8_1, hc8_1, hF⟩ := ob_some hF
  refine en_putI (by decide +kernel : u_at kl_89 9 = some (.putfield 55, [8, 2, 0])) hW ha0 rfl (by decide) rfl (fun h hW => ?_)
  have hW : HW (mkw c0 c1 c2 c3 c4 c5 c6 c7 c8_1 c9 c10 c11 c12 c13) d h := by rw [← Option.some.inj hc8_1]; exact hW
  refine en_segs [(12, .aload_n 0, [])] (by decide +kernel) (y := (13, [some (.ref a0), some (.int p1)], [.ref a0], h)) rfl ?_
  obtain ⟨r2, hr2, hF⟩ := ob_some hF
  refine en_vv (r := []) (by decide +kernel : u_at kl_89 13 = some (.invokevirtual 77, [86, 0, 8])) hW ha0 rfl rfl (Nat.le_of_ble_eq_true rfl) (e_86 (D := D) (by omega) hW ha0 hr2) (fun h hW => ?_)
  have hW : HW (mkw c0 c1 c2 c3 c4 c5 c6 c7 r2 c9 c10 c11 c12 c13) d h := hW
  obtain rfl := Option.some.inj hF
  exact en_ret (by decide +kernel : u_at kl_89 16 = some (.return_, [])) rfl (hQ _ hW)
def F_90 (c1 : Cl) (c8 : Cl) (a0 : Nat) (p1 : Int32) : Option Cl :=
  ast c8 7 a0 6 p1 ((cI c8 1 a0) + (cI c1 4 (cR c8 0 a0))) >>= fun c8_2 =>
  F_87 c1 c8_2 a0 >>= fun r3 =>
  some r3
set_option maxRecDepth 100000 in
set_option maxHeartbeats 4000000 in
/-- HeadCounts$State.kill -/
theorem e_90 {D : Nat} {c0 c1 c2 c3 c4 c5 c6 c7 c8 c9 c10 c11 c12 c13 : Cl} {d : Ad} {h : UH} {a0 : Nat} {p1 : Int32} {r : Cl} (hD : 3 ≤ D) (hW : HW (mkw c0 c1 c2 c3 c4 c5 c6 c7 c8 c9 c10 c11 c12 c13) d h) (ha0 : aK d a0 = (0, 8, 0)) (hF : F_90 c1 c8 a0 p1 = some r) : ∃ q, EX D 90 [.ref a0, .int p1] h q ∧ q.1 = none ∧ HW (mkw c0 c1 c2 c3 c4 c5 c6 c7 r c9 c10 c11 c12 c13) d q.2 := by
  obtain ⟨D, rfl⟩ : ∃ E, D = E + 1 := ⟨D - 1, by omega⟩
  unfold F_90 at hF
  refine ex_in (kl := kl_90) (nL := 2) rfl (by decide +kernel) (Nat.le_of_ble_eq_true rfl) ?_
  obtain ⟨QQ, hQQ⟩ : ∃ QQ : UR → Prop, QQ = (fun q : UR => q.1 = none ∧ HW (mkw c0 c1 c2 c3 c4 c5 c6 c7 r c9 c10 c11 c12 c13) d q.2) := ⟨_, rfl⟩
  rw [← hQQ]
  have hQ : ∀ h' : UH, HW (mkw c0 c1 c2 c3 c4 c5 c6 c7 r c9 c10 c11 c12 c13) d h' → QQ (none, h') := fun h' p => by rw [hQQ]; exact ⟨rfl, p⟩
  clear hQQ
  show Ends (EX D) (u_at kl_90) (0, [some (.ref a0), some (.int p1)], [], h) QQ
  refine en_segs [(0, .aload_n 0, [])] (by decide +kernel) (y := (1, [some (.ref a0), some (.int p1)], [.ref a0], h)) rfl ?_
  refine en_get (by decide +kernel : u_at kl_90 1 = some (.getfield 21, [8, 7])) hW ha0 (by decide) rfl ?_
  refine en_segs [(4, .iload_n 1, []), (5, .aload_n 0, [])] (by decide +kernel) (y := (6, [some (.ref a0), some (.int p1)], [.ref a0, .int p1, .ref (aP d 8 7 a0)], h)) rfl ?_
  refine en_get (by decide +kernel : u_at kl_90 6 = some (.getfield 46, [8, 1])) hW ha0 (by decide) rfl ?_
  refine en_segs [(9, .aload_n 0, [])] (by decide +kernel) (y := (10, [some (.ref a0), some (.int p1)], [.ref a0, .int (cI c8 1 a0), .int p1, .ref (aP d 8 7 a0)], h)) rfl ?_
  have k1 : aK d (cR c8 0 a0) = (0, 1, 0) := wf_obj hW ha0 (by decide) rfl
  refine en_get (by decide +kernel : u_at kl_90 10 = some (.getfield 42, [8, 0])) hW ha0 (by decide) rfl ?_
  refine en_get (by decide +kernel : u_at kl_90 13 = some (.getfield 105, [1, 4])) hW k1 (by decide) rfl ?_
  refine en_segs [(16, .iadd, [])] (by decide +kernel) (y := (17, [some (.ref a0), some (.int p1)], [.int ((cI c8 1 a0) + (cI c1 4 (cR c8 0 a0))), .int p1, .ref (aP d 8 7 a0)], h)) rfl ?_
  obtain ⟨c8_2, hc8_2, hF⟩ := ob_some hF
  refine en_iast (by decide +kernel : u_at kl_90 17 = some (.iastore, [])) hW ha0 rfl (by decide) hc8_2 (fun h hW => ?_)
  have hW : HW (mkw c0 c1 c2 c3 c4 c5 c6 c7 c8_2 c9 c10 c11 c12 c13) d h := hW
  refine en_segs [(18, .aload_n 0, [])] (by decide +kernel) (y := (19, [some (.ref a0), some (.int p1)], [.ref a0], h)) rfl ?_
  obtain ⟨r3, hr3, hF⟩ := ob_some hF
  refine en_vv (r := []) (by decide +kernel : u_at kl_90 19 = some (.invokevirtual 80, [87, 0, 8])) hW ha0 rfl rfl (Nat.le_of_ble_eq_true rfl) (e_87 (D := D) (by omega) hW ha0 hr3) (fun h hW => ?_)
  have hW : HW (mkw c0 c1 c2 c3 c4 c5 c6 c7 r3 c9 c10 c11 c12 c13) d h := hW
  obtain rfl := Option.some.inj hF
  exact en_ret (by decide +kernel : u_at kl_90 22 = some (.return_, [])) rfl (hQ _ hW)
def G_93 (a0 : Nat) (lab : Nat) (xs : List Int32) (ys : List Int64) (zs : List Nat) (c8 : Cl) : Option Cl := match lab, xs, ys, zs with
  | 0, [x1, x2], [], [] =>
    if (cI c8 3 a0) ≤ x2 then
    some (sI c8 3 a0 x1) >>= fun c8_2 =>
    some c8_2
    else
    ald (cA c8 10 a0) 6 x2 >>= fun v3 =>
    ((if v3 ≤ (cI c8 1 a0) then
    some (x1, c8)
    else
    ald (cA c8 8 a0) 6 x2 >>= fun v7 =>
    ast c8 8 a0 6 x1 v7 >>= fun c8_8 =>
    ald (cA c8_8 9 a0) 6 x2 >>= fun v9 =>
    ast c8_8 9 a0 6 x1 v9 >>= fun c8_10 =>
    ald (cA c8_10 10 a0) 6 x2 >>= fun v11 =>
    ast c8_10 10 a0 6 x1 v11 >>= fun c8_12 =>
    some (x1 + 1, c8_12)) : Option (Int32 × Cl)) >>= fun (t4 : Int32 × Cl) =>
    G_93 a0 0 [t4.1, x2 + 1] [] [] t4.2
  | _, _, _, _ => none
partial_fixpoint
set_option maxRecDepth 100000 in
set_option maxHeartbeats 4000000 in
theorem g_93 {D : Nat} (hD : 1 ≤ D + 1) {c0 c1 c2 c3 c4 c5 c6 c7 c9 c10 c11 c12 c13 : Cl} {d : Ad} {a0 : Nat} (ha0 : aK d a0 = (0, 8, 0)) : ∀ (lab : Nat) (xs : List Int32) (ys : List Int64) (zs : List Nat) (c8 : Cl) (r : Cl), G_93 a0 lab xs ys zs c8 = some r →
    (∀ (x1 : Int32) (x2 : Int32), lab = 0 → xs = [x1, x2] → ys = [] → zs = [] → ∀ h : UH, HW (mkw c0 c1 c2 c3 c4 c5 c6 c7 c8 c9 c10 c11 c12 c13) d h → ∀ QQ : UR → Prop, (∀ h' : UH, HW (mkw c0 c1 c2 c3 c4 c5 c6 c7 r c9 c10 c11 c12 c13) d h' → QQ (none, h')) → Ends (EX D) (u_at kl_93) (4, [some (.ref a0), some (.int x1), some (.int x2)], [], h) QQ) := by
  refine G_93.partial_correctness _ (motive := fun lab xs ys zs c8 r =>
    (∀ (x1 : Int32) (x2 : Int32), lab = 0 → xs = [x1, x2] → ys = [] → zs = [] → ∀ h : UH, HW (mkw c0 c1 c2 c3 c4 c5 c6 c7 c8 c9 c10 c11 c12 c13) d h → ∀ QQ : UR → Prop, (∀ h' : UH, HW (mkw c0 c1 c2 c3 c4 c5 c6 c7 r c9 c10 c11 c12 c13) d h' → QQ (none, h')) → Ends (EX D) (u_at kl_93) (4, [some (.ref a0), some (.int x1), some (.int x2)], [], h) QQ)) ?_
  intro G ih lab xs ys zs c8 r hF
  · intro x1 x2 e1 e2 e3 e4 h hW QQ hQ
    subst e1 e2 e3 e4
    refine en_segs [(4, .iload_n 2, []), (5, .aload_n 0, [])] (by decide +kernel) (y := (6, [some (.ref a0), some (.int x1), some (.int x2)], [.ref a0, .int x2], h)) rfl ?_
    refine en_get (by decide +kernel : u_at kl_93 6 = some (.getfield 58, [8, 3])) hW ha0 (by decide) rfl ?_
    refine en_ic_ge (by decide +kernel : u_at kl_93 9 = some (.if_icmp .ge 61, [70])) (fun b1 => ?_) (fun b1 => ?_)
    · replace hF := i_pos b1 hF
      refine en_segs [(70, .aload_n 0, []), (71, .iload_n 1, [])] (by decide +kernel) (y := (72, [some (.ref a0), some (.int x1), some (.int x2)], [.int x1, .ref a0], h)) rfl ?_
      obtain ⟨c8_2, hc8_2, hF⟩ := ob_some hF
      refine en_putI (by decide +kernel : u_at kl_93 72 = some (.putfield 58, [8, 3, 0])) hW ha0 rfl (by decide) rfl (fun h hW => ?_)
      have hW : HW (mkw c0 c1 c2 c3 c4 c5 c6 c7 c8_2 c9 c10 c11 c12 c13) d h := by rw [← Option.some.inj hc8_2]; exact hW
      obtain rfl := Option.some.inj hF
      exact en_ret (by decide +kernel : u_at kl_93 75 = some (.return_, [])) rfl (hQ _ hW)
    · replace hF := i_neg b1 hF
      refine en_segs [(12, .aload_n 0, [])] (by decide +kernel) (y := (13, [some (.ref a0), some (.int x1), some (.int x2)], [.ref a0], h)) rfl ?_
      refine en_get (by decide +kernel : u_at kl_93 13 = some (.getfield 46, [8, 1])) hW ha0 (by decide) rfl ?_
      refine en_segs [(16, .aload_n 0, [])] (by decide +kernel) (y := (17, [some (.ref a0), some (.int x1), some (.int x2)], [.ref a0, .int (cI c8 1 a0)], h)) rfl ?_
      refine en_get (by decide +kernel : u_at kl_93 17 = some (.getfield 30, [8, 10])) hW ha0 (by decide) rfl ?_
      refine en_segs [(20, .iload_n 2, [])] (by decide +kernel) (y := (21, [some (.ref a0), some (.int x1), some (.int x2)], [.int x2, .ref (aP d 8 10 a0), .int (cI c8 1 a0)], h)) rfl ?_
      obtain ⟨v3, hv3, hF⟩ := ob_some hF
      refine en_iald (by decide +kernel : u_at kl_93 21 = some (.iaload, [])) hW ha0 rfl (by decide) hv3 ?_
      obtain ⟨t4, hX, hK⟩ := ob_some hF
      have j5 : ∀ h : UH, HW (mkw c0 c1 c2 c3 c4 c5 c6 c7 t4.2 c9 c10 c11 c12 c13) d h → Ends (EX D) (u_at kl_93) (64, [some (.ref a0), some (.int t4.1), some (.int x2)], [], h) QQ := by
        intro h hW
        have hF := hK
        refine en_segs [(64, .iinc 2 1, []), (67, .goto (-63), [4])] (by decide +kernel) (y := (4, [some (.ref a0), some (.int t4.1), some (.int (x2 + 1))], [], h)) rfl ?_
        exact (ih _ _ _ _ _ _ hF) _ _ rfl rfl rfl rfl  _ hW _ hQ
      have hF := hX
      refine en_ic_ge (by decide +kernel : u_at kl_93 22 = some (.if_icmp .ge 42, [64])) (fun b6 => ?_) (fun b6 => ?_)
      · replace hF := i_pos b6 hF
        obtain rfl := Option.some.inj hF
        exact j5 _ hW
      · replace hF := i_neg b6 hF
        refine en_segs [(25, .aload_n 0, [])] (by decide +kernel) (y := (26, [some (.ref a0), some (.int x1), some (.int x2)], [.ref a0], h)) rfl ?_
        refine en_get (by decide +kernel : u_at kl_93 26 = some (.getfield 24, [8, 8])) hW ha0 (by decide) rfl ?_
        refine en_segs [(29, .iload_n 1, []), (30, .aload_n 0, [])] (by decide +kernel) (y := (31, [some (.ref a0), some (.int x1), some (.int x2)], [.ref a0, .int x1, .ref (aP d 8 8 a0)], h)) rfl ?_
        refine en_get (by decide +kernel : u_at kl_93 31 = some (.getfield 24, [8, 8])) hW ha0 (by decide) rfl ?_
        refine en_segs [(34, .iload_n 2, [])] (by decide +kernel) (y := (35, [some (.ref a0), some (.int x1), some (.int x2)], [.int x2, .ref (aP d 8 8 a0), .int x1, .ref (aP d 8 8 a0)], h)) rfl ?_
        obtain ⟨v7, hv7, hF⟩ := ob_some hF
        refine en_iald (by decide +kernel : u_at kl_93 35 = some (.iaload, [])) hW ha0 rfl (by decide) hv7 ?_
        obtain ⟨c8_8, hc8_8, hF⟩ := ob_some hF
        refine en_iast (by decide +kernel : u_at kl_93 36 = some (.iastore, [])) hW ha0 rfl (by decide) hc8_8 (fun h hW => ?_)
        have hW : HW (mkw c0 c1 c2 c3 c4 c5 c6 c7 c8_8 c9 c10 c11 c12 c13) d h := hW
        refine en_segs [(37, .aload_n 0, [])] (by decide +kernel) (y := (38, [some (.ref a0), some (.int x1), some (.int x2)], [.ref a0], h)) rfl ?_
        refine en_get (by decide +kernel : u_at kl_93 38 = some (.getfield 27, [8, 9])) hW ha0 (by decide) rfl ?_
        refine en_segs [(41, .iload_n 1, []), (42, .aload_n 0, [])] (by decide +kernel) (y := (43, [some (.ref a0), some (.int x1), some (.int x2)], [.ref a0, .int x1, .ref (aP d 8 9 a0)], h)) rfl ?_
        refine en_get (by decide +kernel : u_at kl_93 43 = some (.getfield 27, [8, 9])) hW ha0 (by decide) rfl ?_
        refine en_segs [(46, .iload_n 2, [])] (by decide +kernel) (y := (47, [some (.ref a0), some (.int x1), some (.int x2)], [.int x2, .ref (aP d 8 9 a0), .int x1, .ref (aP d 8 9 a0)], h)) rfl ?_
        obtain ⟨v9, hv9, hF⟩ := ob_some hF
        refine en_iald (by decide +kernel : u_at kl_93 47 = some (.iaload, [])) hW ha0 rfl (by decide) hv9 ?_
        obtain ⟨c8_10, hc8_10, hF⟩ := ob_some hF
        refine en_iast (by decide +kernel : u_at kl_93 48 = some (.iastore, [])) hW ha0 rfl (by decide) hc8_10 (fun h hW => ?_)
        have hW : HW (mkw c0 c1 c2 c3 c4 c5 c6 c7 c8_10 c9 c10 c11 c12 c13) d h := hW
        refine en_segs [(49, .aload_n 0, [])] (by decide +kernel) (y := (50, [some (.ref a0), some (.int x1), some (.int x2)], [.ref a0], h)) rfl ?_
        refine en_get (by decide +kernel : u_at kl_93 50 = some (.getfield 30, [8, 10])) hW ha0 (by decide) rfl ?_
        refine en_segs [(53, .iload_n 1, []), (54, .aload_n 0, [])] (by decide +kernel) (y := (55, [some (.ref a0), some (.int x1), some (.int x2)], [.ref a0, .int x1, .ref (aP d 8 10 a0)], h)) rfl ?_
        refine en_get (by decide +kernel : u_at kl_93 55 = some (.getfield 30, [8, 10])) hW ha0 (by decide) rfl ?_
        refine en_segs [(58, .iload_n 2, [])] (by decide +kernel) (y := (59, [some (.ref a0), some (.int x1), some (.int x2)], [.int x2, .ref (aP d 8 10 a0), .int x1, .ref (aP d 8 10 a0)], h)) rfl ?_
        obtain ⟨v11, hv11, hF⟩ := ob_some hF
        refine en_iald (by decide +kernel : u_at kl_93 59 = some (.iaload, [])) hW ha0 rfl (by decide) hv11 ?_
        obtain ⟨c8_12, hc8_12, hF⟩ := ob_some hF
        refine en_iast (by decide +kernel : u_at kl_93 60 = some (.iastore, [])) hW ha0 rfl (by decide) hc8_12 (fun h hW => ?_)
        have hW : HW (mkw c0 c1 c2 c3 c4 c5 c6 c7 c8_12 c9 c10 c11 c12 c13) d h := hW
        refine en_segs [(61, .iinc 1 1, [])] (by decide +kernel) (y := (64, [some (.ref a0), some (.int (x1 + 1)), some (.int x2)], [], h)) rfl ?_
        obtain rfl := Option.some.inj hF
        exact j5 _ hW
def F_93 (c8 : Cl) (a0 : Nat) : Option Cl :=
  G_93 a0 0 [0, 0] [] [] c8
set_option maxRecDepth 100000 in
set_option maxHeartbeats 4000000 in
/-- HeadCounts$State.dropEchoes -/
theorem e_93 {D : Nat} {c0 c1 c2 c3 c4 c5 c6 c7 c8 c9 c10 c11 c12 c13 : Cl} {d : Ad} {h : UH} {a0 : Nat} {r : Cl} (hD : 1 ≤ D) (hW : HW (mkw c0 c1 c2 c3 c4 c5 c6 c7 c8 c9 c10 c11 c12 c13) d h) (ha0 : aK d a0 = (0, 8, 0)) (hF : F_93 c8 a0 = some r) : ∃ q, EX D 93 [.ref a0] h q ∧ q.1 = none ∧ HW (mkw c0 c1 c2 c3 c4 c5 c6 c7 r c9 c10 c11 c12 c13) d q.2 := by
  obtain ⟨D, rfl⟩ : ∃ E, D = E + 1 := ⟨D - 1, by omega⟩
  unfold F_93 at hF
  refine ex_in (kl := kl_93) (nL := 3) rfl (by decide +kernel) (Nat.le_of_ble_eq_true rfl) ?_
  obtain ⟨QQ, hQQ⟩ : ∃ QQ : UR → Prop, QQ = (fun q : UR => q.1 = none ∧ HW (mkw c0 c1 c2 c3 c4 c5 c6 c7 r c9 c10 c11 c12 c13) d q.2) := ⟨_, rfl⟩
  rw [← hQQ]
  have hQ : ∀ h' : UH, HW (mkw c0 c1 c2 c3 c4 c5 c6 c7 r c9 c10 c11 c12 c13) d h' → QQ (none, h') := fun h' p => by rw [hQQ]; exact ⟨rfl, p⟩
  clear hQQ
  show Ends (EX D) (u_at kl_93) (0, [some (.ref a0), none, none], [], h) QQ
  refine en_segs [(0, .iconst 0, []), (1, .istore_n 1, []), (2, .iconst 0, []), (3, .istore_n 2, [])] (by decide +kernel) (y := (4, [some (.ref a0), some (.int 0), some (.int 0)], [], h)) rfl ?_
  exact (g_93 (D := D) hD ha0 _ _ _ _ _ _ hF) _ _ rfl rfl rfl rfl  _ hW _ hQ
def F_94 (c1 : Cl) (c8 : Cl) (a0 : Nat) (p1 : Int32) : Option Cl :=
  ((if (cI c1 4 (cR c8 0 a0)) ≤ 0 then
  some c8
  else
  if 6 ≤ (cI c8 3 a0) then
  some c8
  else
  ald (cA c8 4 a0) 6 p1 >>= fun v6 =>
  ast c8 8 a0 6 (cI c8 3 a0) v6 >>= fun c8_7 =>
  ald (cA c1 8 (cR c8_7 0 a0)) 6 p1 >>= fun v9 =>
  ast c8_7 9 a0 6 (cI c8_7 3 a0) v9 >>= fun c8_10 =>
  ast c8_10 10 a0 6 (cI c8_10 3 a0) ((cI c8_10 1 a0) + (cI c1 4 (cR c8_10 0 a0))) >>= fun c8_12 =>
  some (sI c8_12 3 a0 ((cI c8_12 3 a0) + 1)) >>= fun c8_13 =>
  some c8_13) : Option (Cl)) >>= fun (t2 : Cl) =>
  some t2
set_option maxRecDepth 100000 in
set_option maxHeartbeats 4000000 in
/-- HeadCounts$State.leaveEcho -/
theorem e_94 {D : Nat} {c0 c1 c2 c3 c4 c5 c6 c7 c8 c9 c10 c11 c12 c13 : Cl} {d : Ad} {h : UH} {a0 : Nat} {p1 : Int32} {r : Cl} (hD : 1 ≤ D) (hW : HW (mkw c0 c1 c2 c3 c4 c5 c6 c7 c8 c9 c10 c11 c12 c13) d h) (ha0 : aK d a0 = (0, 8, 0)) (hF : F_94 c1 c8 a0 p1 = some r) : ∃ q, EX D 94 [.ref a0, .int p1] h q ∧ q.1 = none ∧ HW (mkw c0 c1 c2 c3 c4 c5 c6 c7 r c9 c10 c11 c12 c13) d q.2 := by
  obtain ⟨D, rfl⟩ : ∃ E, D = E + 1 := ⟨D - 1, by omega⟩
  unfold F_94 at hF
  refine ex_in (kl := kl_94) (nL := 2) rfl (by decide +kernel) (Nat.le_of_ble_eq_true rfl) ?_
  obtain ⟨QQ, hQQ⟩ : ∃ QQ : UR → Prop, QQ = (fun q : UR => q.1 = none ∧ HW (mkw c0 c1 c2 c3 c4 c5 c6 c7 r c9 c10 c11 c12 c13) d q.2) := ⟨_, rfl⟩
  rw [← hQQ]
  have hQ : ∀ h' : UH, HW (mkw c0 c1 c2 c3 c4 c5 c6 c7 r c9 c10 c11 c12 c13) d h' → QQ (none, h') := fun h' p => by rw [hQQ]; exact ⟨rfl, p⟩
  clear hQQ
  show Ends (EX D) (u_at kl_94) (0, [some (.ref a0), some (.int p1)], [], h) QQ
  refine en_segs [(0, .aload_n 0, [])] (by decide +kernel) (y := (1, [some (.ref a0), some (.int p1)], [.ref a0], h)) rfl ?_
  have k1 : aK d (cR c8 0 a0) = (0, 1, 0) := wf_obj hW ha0 (by decide) rfl
  refine en_get (by decide +kernel : u_at kl_94 1 = some (.getfield 42, [8, 0])) hW ha0 (by decide) rfl ?_
  refine en_get (by decide +kernel : u_at kl_94 4 = some (.getfield 105, [1, 4])) hW k1 (by decide) rfl ?_
  obtain ⟨t2, hX, hK⟩ := ob_some hF
  have j3 : ∀ h : UH, HW (mkw c0 c1 c2 c3 c4 c5 c6 c7 t2 c9 c10 c11 c12 c13) d h → Ends (EX D) (u_at kl_94) (83, [some (.ref a0), some (.int p1)], [], h) QQ := by
    intro h hW
    have hF := hK
    obtain rfl := Option.some.inj hF
    exact en_ret (by decide +kernel : u_at kl_94 83 = some (.return_, [])) rfl (hQ _ hW)
  have hF := hX
  refine en_if_le (by decide +kernel : u_at kl_94 7 = some (.ifCond .le 76, [83])) (fun b4 => ?_) (fun b4 => ?_)
  · replace hF := i_pos b4 hF
    obtain rfl := Option.some.inj hF
    exact j3 _ hW
  · replace hF := i_neg b4 hF
    refine en_segs [(10, .aload_n 0, [])] (by decide +kernel) (y := (11, [some (.ref a0), some (.int p1)], [.ref a0], h)) rfl ?_
    refine en_get (by decide +kernel : u_at kl_94 11 = some (.getfield 58, [8, 3])) hW ha0 (by decide) rfl ?_
    refine en_segs [(14, .bipush 6, [])] (by decide +kernel) (y := (16, [some (.ref a0), some (.int p1)], [.int 6, .int (cI c8 3 a0)], h)) rfl ?_
    refine en_ic_ge (by decide +kernel : u_at kl_94 16 = some (.if_icmp .ge 67, [83])) (fun b5 => ?_) (fun b5 => ?_)
    · replace hF := i_pos b5 hF
      obtain rfl := Option.some.inj hF
      exact j3 _ hW
    · replace hF := i_neg b5 hF
      refine en_segs [(19, .aload_n 0, [])] (by decide +kernel) (y := (20, [some (.ref a0), some (.int p1)], [.ref a0], h)) rfl ?_
      refine en_get (by decide +kernel : u_at kl_94 20 = some (.getfield 24, [8, 8])) hW ha0 (by decide) rfl ?_
      refine en_segs [(23, .aload_n 0, [])] (by decide +kernel) (y := (24, [some (.ref a0), some (.int p1)], [.ref a0, .ref (aP d 8 8 a0)], h)) rfl ?_
      refine en_get (by decide +kernel : u_at kl_94 24 = some (.getfield 58, [8, 3])) hW ha0 (by decide) rfl ?_
      refine en_segs [(27, .aload_n 0, [])] (by decide +kernel) (y := (28, [some (.ref a0), some (.int p1)], [.ref a0, .int (cI c8 3 a0), .ref (aP d 8 8 a0)], h)) rfl ?_
      refine en_get (by decide +kernel : u_at kl_94 28 = some (.getfield 9, [8, 4])) hW ha0 (by decide) rfl ?_
      refine en_segs [(31, .iload_n 1, [])] (by decide +kernel) (y := (32, [some (.ref a0), some (.int p1)], [.int p1, .ref (aP d 8 4 a0), .int (cI c8 3 a0), .ref (aP d 8 8 a0)], h)) rfl ?_
      obtain ⟨v6, hv6, hF⟩ := ob_some hF
      refine en_iald (by decide +kernel : u_at kl_94 32 = some (.iaload, [])) hW ha0 rfl (by decide) hv6 ?_
      obtain ⟨c8_7, hc8_7, hF⟩ := ob_some hF
      refine en_iast (by decide +kernel : u_at kl_94 33 = some (.iastore, [])) hW ha0 rfl (by decide) hc8_7 (fun h hW => ?_)
      have hW : HW (mkw c0 c1 c2 c3 c4 c5 c6 c7 c8_7 c9 c10 c11 c12 c13) d h := hW
      refine en_segs [(34, .aload_n 0, [])] (by decide +kernel) (y := (35, [some (.ref a0), some (.int p1)], [.ref a0], h)) rfl ?_
      refine en_get (by decide +kernel : u_at kl_94 35 = some (.getfield 27, [8, 9])) hW ha0 (by decide) rfl ?_
      refine en_segs [(38, .aload_n 0, [])] (by decide +kernel) (y := (39, [some (.ref a0), some (.int p1)], [.ref a0, .ref (aP d 8 9 a0)], h)) rfl ?_
      refine en_get (by decide +kernel : u_at kl_94 39 = some (.getfield 58, [8, 3])) hW ha0 (by decide) rfl ?_
      refine en_segs [(42, .aload_n 0, [])] (by decide +kernel) (y := (43, [some (.ref a0), some (.int p1)], [.ref a0, .int (cI c8_7 3 a0), .ref (aP d 8 9 a0)], h)) rfl ?_
      have k8 : aK d (cR c8_7 0 a0) = (0, 1, 0) := wf_obj hW ha0 (by decide) rfl
      refine en_get (by decide +kernel : u_at kl_94 43 = some (.getfield 42, [8, 0])) hW ha0 (by decide) rfl ?_
      refine en_get (by decide +kernel : u_at kl_94 46 = some (.getfield 102, [1, 8])) hW k8 (by decide) rfl ?_
      refine en_segs [(49, .iload_n 1, [])] (by decide +kernel) (y := (50, [some (.ref a0), some (.int p1)], [.int p1, .ref (aP d 1 8 (cR c8_7 0 a0)), .int (cI c8_7 3 a0), .ref (aP d 8 9 a0)], h)) rfl ?_
      obtain ⟨v9, hv9, hF⟩ := ob_some hF
      refine en_iald (by decide +kernel : u_at kl_94 50 = some (.iaload, [])) hW k8 rfl (by decide) hv9 ?_
      obtain ⟨c8_10, hc8_10, hF⟩ := ob_some hF
      refine en_iast (by decide +kernel : u_at kl_94 51 = some (.iastore, [])) hW ha0 rfl (by decide) hc8_10 (fun h hW => ?_)
      have hW : HW (mkw c0 c1 c2 c3 c4 c5 c6 c7 c8_10 c9 c10 c11 c12 c13) d h := hW
      refine en_segs [(52, .aload_n 0, [])] (by decide +kernel) (y := (53, [some (.ref a0), some (.int p1)], [.ref a0], h)) rfl ?_
      refine en_get (by decide +kernel : u_at kl_94 53 = some (.getfield 30, [8, 10])) hW ha0 (by decide) rfl ?_
      refine en_segs [(56, .aload_n 0, [])] (by decide +kernel) (y := (57, [some (.ref a0), some (.int p1)], [.ref a0, .ref (aP d 8 10 a0)], h)) rfl ?_
      refine en_get (by decide +kernel : u_at kl_94 57 = some (.getfield 58, [8, 3])) hW ha0 (by decide) rfl ?_
      refine en_segs [(60, .aload_n 0, [])] (by decide +kernel) (y := (61, [some (.ref a0), some (.int p1)], [.ref a0, .int (cI c8_10 3 a0), .ref (aP d 8 10 a0)], h)) rfl ?_
      refine en_get (by decide +kernel : u_at kl_94 61 = some (.getfield 46, [8, 1])) hW ha0 (by decide) rfl ?_
      refine en_segs [(64, .aload_n 0, [])] (by decide +kernel) (y := (65, [some (.ref a0), some (.int p1)], [.ref a0, .int (cI c8_10 1 a0), .int (cI c8_10 3 a0), .ref (aP d 8 10 a0)], h)) rfl ?_
      have k11 : aK d (cR c8_10 0 a0) = (0, 1, 0) := wf_obj hW ha0 (by decide) rfl
      refine en_get (by decide +kernel : u_at kl_94 65 = some (.getfield 42, [8, 0])) hW ha0 (by decide) rfl ?_
      refine en_get (by decide +kernel : u_at kl_94 68 = some (.getfield 105, [1, 4])) hW k11 (by decide) rfl ?_
      refine en_segs [(71, .iadd, [])] (by decide +kernel) (y := (72, [some (.ref a0), some (.int p1)], [.int ((cI c8_10 1 a0) + (cI c1 4 (cR c8_10 0 a0))), .int (cI c8_10 3 a0), .ref (aP d 8 10 a0)], h)) rfl ?_
      obtain ⟨c8_12, hc8_12, hF⟩ := ob_some hF
      refine en_iast (by decide +kernel : u_at kl_94 72 = some (.iastore, [])) hW ha0 rfl (by decide) hc8_12 (fun h hW => ?_)
      have hW : HW (mkw c0 c1 c2 c3 c4 c5 c6 c7 c8_12 c9 c10 c11 c12 c13) d h := hW
      refine en_segs [(73, .aload_n 0, []), (74, .dup, [])] (by decide +kernel) (y := (75, [some (.ref a0), some (.int p1)], [.ref a0, .ref a0], h)) rfl ?_
      refine en_get (by decide +kernel : u_at kl_94 75 = some (.getfield 58, [8, 3])) hW ha0 (by decide) rfl ?_
      refine en_segs [(78, .iconst 1, []), (79, .iadd, [])] (by decide +kernel) (y := (80, [some (.ref a0), some (.int p1)], [.int ((cI c8_12 3 a0) + 1), .ref a0], h)) rfl ?_
      obtain ⟨c8_13, hc8_13, hF⟩ := ob_some hF
      refine en_putI (by decide +kernel : u_at kl_94 80 = some (.putfield 58, [8, 3, 0])) hW ha0 rfl (by decide) rfl (fun h hW => ?_)
      have hW : HW (mkw c0 c1 c2 c3 c4 c5 c6 c7 c8_13 c9 c10 c11 c12 c13) d h := by rw [← Option.some.inj hc8_13]; exact hW
      obtain rfl := Option.some.inj hF
      exact j3 _ hW
def F_92 (c1 : Cl) (c8 : Cl) (a0 : Nat) (p1 : Int32) (p2 : Int32) (p3 : Int32) : Option Cl :=
  some (sI c8 1 a0 ((cI c8 1 a0) + 1)) >>= fun c8_1 =>
  F_93 c8_1 a0 >>= fun r2 =>
  ((if p1 < 0 then
  some r2
  else
  if (cI c1 2 (cR r2 0 a0)) ≤ p1 then
  some r2
  else
  if p2 < 0 then
  some r2
  else
  if (cI c1 0 (cR r2 0 a0)) ≤ p2 then
  some r2
  else
  ((if p3 = 0 then
  some r2
  else
  F_94 c1 r2 a0 p1 >>= fun r20 =>
  some r20) : Option (Cl)) >>= fun (t12 : Cl) =>
  ald (cA t12 4 a0) 6 p1 >>= fun v14 =>
  ast t12 5 a0 6 p1 v14 >>= fun c8_15 =>
  ast c8_15 4 a0 6 p1 p2 >>= fun c8_16 =>
  ald (cA c8_16 6 a0) 6 p1 >>= fun v17 =>
  ast c8_16 6 a0 6 p1 (v17 + 1) >>= fun c8_18 =>
  some c8_18) : Option (Cl)) >>= fun (t3 : Cl) =>
  F_87 c1 t3 a0 >>= fun r5 =>
  F_88 r5 a0 >>= fun r6 =>
  some r6
set_option maxRecDepth 100000 in
set_option maxHeartbeats 4000000 in
/-- HeadCounts$State.pass -/
theorem e_92 {D : Nat} {c0 c1 c2 c3 c4 c5 c6 c7 c8 c9 c10 c11 c12 c13 : Cl} {d : Ad} {h : UH} {a0 : Nat} {p1 : Int32} {p2 : Int32} {p3 : Int32} {r : Cl} (hD : 3 ≤ D) (hW : HW (mkw c0 c1 c2 c3 c4 c5 c6 c7 c8 c9 c10 c11 c12 c13) d h) (ha0 : aK d a0 = (0, 8, 0)) (hF : F_92 c1 c8 a0 p1 p2 p3 = some r) : ∃ q, EX D 92 [.ref a0, .int p1, .int p2, .int p3] h q ∧ q.1 = none ∧ HW (mkw c0 c1 c2 c3 c4 c5 c6 c7 r c9 c10 c11 c12 c13) d q.2 := by
  obtain ⟨D, rfl⟩ : ∃ E, D = E + 1 := ⟨D - 1, by omega⟩
  unfold F_92 at hF
  refine ex_in (kl := kl_92) (nL := 4) rfl (by decide +kernel) (Nat.le_of_ble_eq_true rfl) ?_
  obtain ⟨QQ, hQQ⟩ : ∃ QQ : UR → Prop, QQ = (fun q : UR => q.1 = none ∧ HW (mkw c0 c1 c2 c3 c4 c5 c6 c7 r c9 c10 c11 c12 c13) d q.2) := ⟨_, rfl⟩
  rw [← hQQ]
  have hQ : ∀ h' : UH, HW (mkw c0 c1 c2 c3 c4 c5 c6 c7 r c9 c10 c11 c12 c13) d h' → QQ (none, h') := fun h' p => by rw [hQQ]; exact ⟨rfl, p⟩
  clear hQQ
  show Ends (EX D) (u_at kl_92) (0, [some (.ref a0), some (.int p1), some (.int p2), some (.int p3)], [], h) QQ
  refine en_segs [(0, .aload_n 0, []), (1, .dup, [])] (by decide +kernel) (y := (2, [some (.ref a0), some (.int p1), some (.int p2), some (.int p3)], [.ref a0, .ref a0], h)) rfl ?_
  refine en_get (by decide +kernel : u_at kl_92 2 = some (.getfield 46, [8, 1])) hW ha0 (by decide) rfl ?_
  refine en_segs [(5, .iconst 1, []), (6, .iadd, [])] (by decide +kernel) (y := (7, [some (.ref a0), some (.int p1), some (.int p2), some (.int p3)], [.int ((cI c8 1 a0) + 1), .ref a0], h)) rfl ?_
  obtain ⟨c8_1, hc8_1, hF⟩ := ob_some hF
  refine en_putI (by decide +kernel : u_at kl_92 7 = some (.putfield 46, [8, 1, 0])) hW ha0 rfl (by decide) rfl (fun h hW => ?_)
  have hW : HW (mkw c0 c1 c2 c3 c4 c5 c6 c7 c8_1 c9 c10 c11 c12 c13) d h := by rw [← Option.some.inj hc8_1]; exact hW
  refine en_segs [(10, .aload_n 0, [])] (by decide +kernel) (y := (11, [some (.ref a0), some (.int p1), some (.int p2), some (.int p3)], [.ref a0], h)) rfl ?_
  obtain ⟨r2, hr2, hF⟩ := ob_some hF
  refine en_vv (r := []) (by decide +kernel : u_at kl_92 11 = some (.invokevirtual 111, [93, 0, 8])) hW ha0 rfl rfl (Nat.le_of_ble_eq_true rfl) (e_93 (D := D) (by omega) hW ha0 hr2) (fun h hW => ?_)
  have hW : HW (mkw c0 c1 c2 c3 c4 c5 c6 c7 r2 c9 c10 c11 c12 c13) d h := hW
  refine en_segs [(14, .iload_n 1, [])] (by decide +kernel) (y := (15, [some (.ref a0), some (.int p1), some (.int p2), some (.int p3)], [.int p1], h)) rfl ?_
  obtain ⟨t3, hX, hK⟩ := ob_some hF
  have j4 : ∀ h : UH, HW (mkw c0 c1 c2 c3 c4 c5 c6 c7 t3 c9 c10 c11 c12 c13) d h → Ends (EX D) (u_at kl_92) (82, [some (.ref a0), some (.int p1), some (.int p2), some (.int p3)], [], h) QQ := by
    intro h hW
    have hF := hK
    refine en_segs [(82, .aload_n 0, [])] (by decide +kernel) (y := (83, [some (.ref a0), some (.int p1), some (.int p2), some (.int p3)], [.ref a0], h)) rfl ?_
    obtain ⟨r5, hr5, hF⟩ := ob_some hF
    refine en_vv (r := []) (by decide +kernel : u_at kl_92 83 = some (.invokevirtual 80, [87, 0, 8])) hW ha0 rfl rfl (Nat.le_of_ble_eq_true rfl) (e_87 (D := D) (by omega) hW ha0 hr5) (fun h hW => ?_)
    have hW : HW (mkw c0 c1 c2 c3 c4 c5 c6 c7 r5 c9 c10 c11 c12 c13) d h := hW
    refine en_segs [(86, .aload_n 0, [])] (by decide +kernel) (y := (87, [some (.ref a0), some (.int p1), some (.int p2), some (.int p3)], [.ref a0], h)) rfl ?_
    obtain ⟨r6, hr6, hF⟩ := ob_some hF
    refine en_vv (r := []) (by decide +kernel : u_at kl_92 87 = some (.invokevirtual 83, [88, 0, 8])) hW ha0 rfl rfl (Nat.le_of_ble_eq_true rfl) (e_88 (D := D) (by omega) hW ha0 hr6) (fun h hW => ?_)
    have hW : HW (mkw c0 c1 c2 c3 c4 c5 c6 c7 r6 c9 c10 c11 c12 c13) d h := hW
    obtain rfl := Option.some.inj hF
    exact en_ret (by decide +kernel : u_at kl_92 90 = some (.return_, [])) rfl (hQ _ hW)
  have hF := hX
  refine en_if_lt (by decide +kernel : u_at kl_92 15 = some (.ifCond .lt 67, [82])) (fun b7 => ?_) (fun b7 => ?_)
  · replace hF := i_pos b7 hF
    obtain rfl := Option.some.inj hF
    exact j4 _ hW
  · replace hF := i_neg b7 hF
    refine en_segs [(18, .iload_n 1, []), (19, .aload_n 0, [])] (by decide +kernel) (y := (20, [some (.ref a0), some (.int p1), some (.int p2), some (.int p3)], [.ref a0, .int p1], h)) rfl ?_
    have k8 : aK d (cR r2 0 a0) = (0, 1, 0) := wf_obj hW ha0 (by decide) rfl
    refine en_get (by decide +kernel : u_at kl_92 20 = some (.getfield 42, [8, 0])) hW ha0 (by decide) rfl ?_
    refine en_get (by decide +kernel : u_at kl_92 23 = some (.getfield 96, [1, 2])) hW k8 (by decide) rfl ?_
    refine en_ic_ge (by decide +kernel : u_at kl_92 26 = some (.if_icmp .ge 56, [82])) (fun b9 => ?_) (fun b9 => ?_)
    · replace hF := i_pos b9 hF
      obtain rfl := Option.some.inj hF
      exact j4 _ hW
    · replace hF := i_neg b9 hF
      refine en_segs [(29, .iload_n 2, [])] (by decide +kernel) (y := (30, [some (.ref a0), some (.int p1), some (.int p2), some (.int p3)], [.int p2], h)) rfl ?_
      refine en_if_lt (by decide +kernel : u_at kl_92 30 = some (.ifCond .lt 52, [82])) (fun b10 => ?_) (fun b10 => ?_)
      · replace hF := i_pos b10 hF
        obtain rfl := Option.some.inj hF
        exact j4 _ hW
      · replace hF := i_neg b10 hF
        refine en_segs [(33, .iload_n 2, []), (34, .aload_n 0, [])] (by decide +kernel) (y := (35, [some (.ref a0), some (.int p1), some (.int p2), some (.int p3)], [.ref a0, .int p2], h)) rfl ?_
        refine en_get (by decide +kernel : u_at kl_92 35 = some (.getfield 42, [8, 0])) hW ha0 (by decide) rfl ?_
        refine en_get (by decide +kernel : u_at kl_92 38 = some (.getfield 114, [1, 0])) hW k8 (by decide) rfl ?_
        refine en_ic_ge (by decide +kernel : u_at kl_92 41 = some (.if_icmp .ge 41, [82])) (fun b11 => ?_) (fun b11 => ?_)
        · replace hF := i_pos b11 hF
          obtain rfl := Option.some.inj hF
          exact j4 _ hW
        · replace hF := i_neg b11 hF
          refine en_segs [(44, .iload_n 3, [])] (by decide +kernel) (y := (45, [some (.ref a0), some (.int p1), some (.int p2), some (.int p3)], [.int p3], h)) rfl ?_
          obtain ⟨t12, hX, hK⟩ := ob_some hF
          have j13 : ∀ h : UH, HW (mkw c0 c1 c2 c3 c4 c5 c6 c7 t12 c9 c10 c11 c12 c13) d h → Ends (EX D) (u_at kl_92) (53, [some (.ref a0), some (.int p1), some (.int p2), some (.int p3)], [], h) QQ := by
            intro h hW
            have hF := hK
            refine en_segs [(53, .aload_n 0, [])] (by decide +kernel) (y := (54, [some (.ref a0), some (.int p1), some (.int p2), some (.int p3)], [.ref a0], h)) rfl ?_
            refine en_get (by decide +kernel : u_at kl_92 54 = some (.getfield 15, [8, 5])) hW ha0 (by decide) rfl ?_
            refine en_segs [(57, .iload_n 1, []), (58, .aload_n 0, [])] (by decide +kernel) (y := (59, [some (.ref a0), some (.int p1), some (.int p2), some (.int p3)], [.ref a0, .int p1, .ref (aP d 8 5 a0)], h)) rfl ?_
            refine en_get (by decide +kernel : u_at kl_92 59 = some (.getfield 9, [8, 4])) hW ha0 (by decide) rfl ?_
            refine en_segs [(62, .iload_n 1, [])] (by decide +kernel) (y := (63, [some (.ref a0), some (.int p1), some (.int p2), some (.int p3)], [.int p1, .ref (aP d 8 4 a0), .int p1, .ref (aP d 8 5 a0)], h)) rfl ?_
            obtain ⟨v14, hv14, hF⟩ := ob_some hF
            refine en_iald (by decide +kernel : u_at kl_92 63 = some (.iaload, [])) hW ha0 rfl (by decide) hv14 ?_
            obtain ⟨c8_15, hc8_15, hF⟩ := ob_some hF
            refine en_iast (by decide +kernel : u_at kl_92 64 = some (.iastore, [])) hW ha0 rfl (by decide) hc8_15 (fun h hW => ?_)
            have hW : HW (mkw c0 c1 c2 c3 c4 c5 c6 c7 c8_15 c9 c10 c11 c12 c13) d h := hW
            refine en_segs [(65, .aload_n 0, [])] (by decide +kernel) (y := (66, [some (.ref a0), some (.int p1), some (.int p2), some (.int p3)], [.ref a0], h)) rfl ?_
            refine en_get (by decide +kernel : u_at kl_92 66 = some (.getfield 9, [8, 4])) hW ha0 (by decide) rfl ?_
            refine en_segs [(69, .iload_n 1, []), (70, .iload_n 2, [])] (by decide +kernel) (y := (71, [some (.ref a0), some (.int p1), some (.int p2), some (.int p3)], [.int p2, .int p1, .ref (aP d 8 4 a0)], h)) rfl ?_
            obtain ⟨c8_16, hc8_16, hF⟩ := ob_some hF
            refine en_iast (by decide +kernel : u_at kl_92 71 = some (.iastore, [])) hW ha0 rfl (by decide) hc8_16 (fun h hW => ?_)
            have hW : HW (mkw c0 c1 c2 c3 c4 c5 c6 c7 c8_16 c9 c10 c11 c12 c13) d h := hW
            refine en_segs [(72, .aload_n 0, [])] (by decide +kernel) (y := (73, [some (.ref a0), some (.int p1), some (.int p2), some (.int p3)], [.ref a0], h)) rfl ?_
            refine en_get (by decide +kernel : u_at kl_92 73 = some (.getfield 18, [8, 6])) hW ha0 (by decide) rfl ?_
            refine en_segs [(76, .iload_n 1, []), (77, .dup2, [])] (by decide +kernel) (y := (78, [some (.ref a0), some (.int p1), some (.int p2), some (.int p3)], [.int p1, .ref (aP d 8 6 a0), .int p1, .ref (aP d 8 6 a0)], h)) rfl ?_
            obtain ⟨v17, hv17, hF⟩ := ob_some hF
            refine en_iald (by decide +kernel : u_at kl_92 78 = some (.iaload, [])) hW ha0 rfl (by decide) hv17 ?_
            refine en_segs [(79, .iconst 1, []), (80, .iadd, [])] (by decide +kernel) (y := (81, [some (.ref a0), some (.int p1), some (.int p2), some (.int p3)], [.int (v17 + 1), .int p1, .ref (aP d 8 6 a0)], h)) rfl ?_
            obtain ⟨c8_18, hc8_18, hF⟩ := ob_some hF
            refine en_iast (by decide +kernel : u_at kl_92 81 = some (.iastore, [])) hW ha0 rfl (by decide) hc8_18 (fun h hW => ?_)
            have hW : HW (mkw c0 c1 c2 c3 c4 c5 c6 c7 c8_18 c9 c10 c11 c12 c13) d h := hW
            obtain rfl := Option.some.inj hF
            exact j4 _ hW
          have hF := hX
          refine en_if_eq (by decide +kernel : u_at kl_92 45 = some (.ifCond .eq 8, [53])) (fun b19 => ?_) (fun b19 => ?_)
          · replace hF := i_pos b19 hF
            obtain rfl := Option.some.inj hF
            exact j13 _ hW
          · replace hF := i_neg b19 hF
            refine en_segs [(48, .aload_n 0, []), (49, .iload_n 1, [])] (by decide +kernel) (y := (50, [some (.ref a0), some (.int p1), some (.int p2), some (.int p3)], [.int p1, .ref a0], h)) rfl ?_
            obtain ⟨r20, hr20, hF⟩ := ob_some hF
            refine en_vv (r := []) (by decide +kernel : u_at kl_92 50 = some (.invokevirtual 117, [94, 1, 8])) hW ha0 rfl rfl (Nat.le_of_ble_eq_true rfl) (e_94 (D := D) (by omega) hW ha0 hr20) (fun h hW => ?_)
            have hW : HW (mkw c0 c1 c2 c3 c4 c5 c6 c7 r20 c9 c10 c11 c12 c13) d h := hW
            obtain rfl := Option.some.inj hF
            exact j13 _ hW
def G_97 (c1 : Cl) (c8 : Cl) (a0 : Nat) (lab : Nat) (xs : List Int32) (ys : List Int64) (zs : List Nat) : Option Int32 := match lab, xs, ys, zs with
  | 0, [x1, x2, x3], [], [] =>
    if (cI c1 0 (cR c8 0 a0)) ≤ x3 then
    some x2
    else
    ald (cA c1 11 (cR c8 0 a0)) 6 x1 >>= fun v3 =>
    ((if ((v3 >>> (x3 &&& 31)) &&& 1) = 1 then
    F_96 c1 c8 a0 x3 >>= fun r7 =>
    some (x2 + r7)
    else
    some x2) : Option (Int32)) >>= fun (t4 : Int32) =>
    G_97 c1 c8 a0 0 [x1, t4, x3 + 1] [] []
  | _, _, _, _ => none
partial_fixpoint
set_option maxRecDepth 100000 in
set_option maxHeartbeats 4000000 in
theorem g_97 {D : Nat} (hD : 3 ≤ D + 1) {c0 c1 c2 c3 c4 c5 c6 c7 c8 c9 c10 c11 c12 c13 : Cl} {d : Ad} {a0 : Nat} (ha0 : aK d a0 = (0, 8, 0)) : ∀ (lab : Nat) (xs : List Int32) (ys : List Int64) (zs : List Nat) (r : Int32), G_97 c1 c8 a0 lab xs ys zs = some r →
    (∀ (x1 : Int32) (x2 : Int32) (x3 : Int32), lab = 0 → xs = [x1, x2, x3] → ys = [] → zs = [] → ∀ h : UH, HW (mkw c0 c1 c2 c3 c4 c5 c6 c7 c8 c9 c10 c11 c12 c13) d h → ∀ QQ : UR → Prop, QQ (some (.int r), h) → Ends (EX D) (u_at kl_97) (4, [some (.ref a0), some (.int x1), some (.int x2), some (.int x3)], [], h) QQ) := by
  refine G_97.partial_correctness _ _ _ (motive := fun lab xs ys zs r =>
    (∀ (x1 : Int32) (x2 : Int32) (x3 : Int32), lab = 0 → xs = [x1, x2, x3] → ys = [] → zs = [] → ∀ h : UH, HW (mkw c0 c1 c2 c3 c4 c5 c6 c7 c8 c9 c10 c11 c12 c13) d h → ∀ QQ : UR → Prop, QQ (some (.int r), h) → Ends (EX D) (u_at kl_97) (4, [some (.ref a0), some (.int x1), some (.int x2), some (.int x3)], [], h) QQ)) ?_
  intro G ih lab xs ys zs r hF
  · intro x1 x2 x3 e1 e2 e3 e4 h hW QQ hQ
    subst e1 e2 e3 e4
    refine en_segs [(4, .iload_n 3, []), (5, .aload_n 0, [])] (by decide +kernel) (y := (6, [some (.ref a0), some (.int x1), some (.int x2), some (.int x3)], [.ref a0, .int x3], h)) rfl ?_
    have k1 : aK d (cR c8 0 a0) = (0, 1, 0) := wf_obj hW ha0 (by decide) rfl
    refine en_get (by decide +kernel : u_at kl_97 6 = some (.getfield 42, [8, 0])) hW ha0 (by decide) rfl ?_
    refine en_get (by decide +kernel : u_at kl_97 9 = some (.getfield 114, [1, 0])) hW k1 (by decide) rfl ?_
    refine en_ic_ge (by decide +kernel : u_at kl_97 12 = some (.if_icmp .ge 34, [46])) (fun b2 => ?_) (fun b2 => ?_)
    · replace hF := i_pos b2 hF
      refine en_segs [(46, .iload_n 2, [])] (by decide +kernel) (y := (47, [some (.ref a0), some (.int x1), some (.int x2), some (.int x3)], [.int x2], h)) rfl ?_
      obtain rfl := Option.some.inj hF
      exact en_ret (by decide +kernel : u_at kl_97 47 = some (.ireturn, [0])) rfl (hQ)
    · replace hF := i_neg b2 hF
      refine en_segs [(15, .aload_n 0, [])] (by decide +kernel) (y := (16, [some (.ref a0), some (.int x1), some (.int x2), some (.int x3)], [.ref a0], h)) rfl ?_
      refine en_get (by decide +kernel : u_at kl_97 16 = some (.getfield 42, [8, 0])) hW ha0 (by decide) rfl ?_
      refine en_get (by decide +kernel : u_at kl_97 19 = some (.getfield 131, [1, 11])) hW k1 (by decide) rfl ?_
      refine en_segs [(22, .iload_n 1, [])] (by decide +kernel) (y := (23, [some (.ref a0), some (.int x1), some (.int x2), some (.int x3)], [.int x1, .ref (aP d 1 11 (cR c8 0 a0))], h)) rfl ?_
      obtain ⟨v3, hv3, hF⟩ := ob_some hF
      refine en_iald (by decide +kernel : u_at kl_97 23 = some (.iaload, [])) hW k1 rfl (by decide) hv3 ?_
      refine en_segs [(24, .iload_n 3, []), (25, .ishr, []), (26, .iconst 1, []), (27, .iand, []), (28, .iconst 1, [])] (by decide +kernel) (y := (29, [some (.ref a0), some (.int x1), some (.int x2), some (.int x3)], [.int 1, .int ((v3 >>> (x3 &&& 31)) &&& 1)], h)) rfl ?_
      obtain ⟨t4, hX, hK⟩ := ob_some hF
      have j5 : Ends (EX D) (u_at kl_97) (40, [some (.ref a0), some (.int x1), some (.int t4), some (.int x3)], [], h) QQ := by
        have hF := hK
        refine en_segs [(40, .iinc 3 1, []), (43, .goto (-39), [4])] (by decide +kernel) (y := (4, [some (.ref a0), some (.int x1), some (.int t4), some (.int (x3 + 1))], [], h)) rfl ?_
        exact (ih _ _ _ _ _ hF) _ _ _ rfl rfl rfl rfl  _ hW _ hQ
      have hF := hX
      refine en_ic_ne (by decide +kernel : u_at kl_97 29 = some (.if_icmp .ne 11, [40])) (fun b6 => ?_) (fun b6 => ?_)
      · replace hF := i_pos b6 hF
        refine en_segs [(32, .iload_n 2, []), (33, .aload_n 0, []), (34, .iload_n 3, [])] (by decide +kernel) (y := (35, [some (.ref a0), some (.int x1), some (.int x2), some (.int x3)], [.int x3, .ref a0, .int x2], h)) rfl ?_
        obtain ⟨r7, hr7, hF⟩ := ob_some hF
        refine en_vi (r := [.int x2]) (by decide +kernel : u_at kl_97 35 = some (.invokevirtual 134, [96, 1, 8])) hW ha0 rfl rfl (Nat.le_of_ble_eq_true rfl) (e_96 (D := D) (by omega) hW ha0 hr7) (fun h' q => ?_)
        subst q
        refine en_segs [(38, .iadd, []), (39, .istore_n 2, [])] (by decide +kernel) (y := (40, [some (.ref a0), some (.int x1), some (.int (x2 + r7)), some (.int x3)], [], h)) rfl ?_
        obtain rfl := Option.some.inj hF
        exact j5
      · replace hF := i_neg b6 hF
        obtain rfl := Option.some.inj hF
        exact j5
def F_97 (c1 : Cl) (c8 : Cl) (a0 : Nat) (p1 : Int32) : Option Int32 :=
  G_97 c1 c8 a0 0 [p1, 0, 0] [] []
set_option maxRecDepth 100000 in
set_option maxHeartbeats 4000000 in
/-- HeadCounts$State.feltBy -/
theorem e_97 {D : Nat} {c0 c1 c2 c3 c4 c5 c6 c7 c8 c9 c10 c11 c12 c13 : Cl} {d : Ad} {h : UH} {a0 : Nat} {p1 : Int32} {r : Int32} (hD : 3 ≤ D) (hW : HW (mkw c0 c1 c2 c3 c4 c5 c6 c7 c8 c9 c10 c11 c12 c13) d h) (ha0 : aK d a0 = (0, 8, 0)) (hF : F_97 c1 c8 a0 p1 = some r) : ∃ q, EX D 97 [.ref a0, .int p1] h q ∧ q.1 = some (.int r) ∧ h = q.2 := by
  obtain ⟨D, rfl⟩ : ∃ E, D = E + 1 := ⟨D - 1, by omega⟩
  unfold F_97 at hF
  refine ex_in (kl := kl_97) (nL := 4) rfl (by decide +kernel) (Nat.le_of_ble_eq_true rfl) ?_
  obtain ⟨QQ, hQQ⟩ : ∃ QQ : UR → Prop, QQ = (fun q : UR => q.1 = some (.int r) ∧ h = q.2) := ⟨_, rfl⟩
  rw [← hQQ]
  have hQ : QQ (some (.int r), h) := by rw [hQQ]; exact ⟨rfl, rfl⟩
  clear hQQ
  show Ends (EX D) (u_at kl_97) (0, [some (.ref a0), some (.int p1), none, none], [], h) QQ
  refine en_segs [(0, .iconst 0, []), (1, .istore_n 2, []), (2, .iconst 0, []), (3, .istore_n 3, [])] (by decide +kernel) (y := (4, [some (.ref a0), some (.int p1), some (.int 0), some (.int 0)], [], h)) rfl ?_
  exact (g_97 (D := D) hD ha0 _ _ _ _ _ hF) _ _ _ rfl rfl rfl rfl  _ hW _ hQ
def G_98 (c1 : Cl) (c8 : Cl) (a0 : Nat) (lab : Nat) (xs : List Int32) (ys : List Int64) (zs : List Nat) : Option Int32 := match lab, xs, ys, zs with
  | 0, [x1, x2, x3], [], [] =>
    if (cI c1 2 (cR c8 0 a0)) ≤ x3 then
    some x2
    else
    F_83 c8 a0 x3 >>= fun r3 =>
    ((if r3 = 0 then
    some x2
    else
    ald (cA c8 4 a0) 6 x3 >>= fun v7 =>
    if v7 = x1 then
    some (x2 ||| (1 <<< (x3 &&& 31)))
    else
    some x2) : Option (Int32)) >>= fun (t4 : Int32) =>
    G_98 c1 c8 a0 0 [x1, t4, x3 + 1] [] []
  | _, _, _, _ => none
partial_fixpoint
set_option maxRecDepth 100000 in
set_option maxHeartbeats 4000000 in
theorem g_98 {D : Nat} (hD : 2 ≤ D + 1) {c0 c1 c2 c3 c4 c5 c6 c7 c8 c9 c10 c11 c12 c13 : Cl} {d : Ad} {a0 : Nat} (ha0 : aK d a0 = (0, 8, 0)) : ∀ (lab : Nat) (xs : List Int32) (ys : List Int64) (zs : List Nat) (r : Int32), G_98 c1 c8 a0 lab xs ys zs = some r →
    (∀ (x1 : Int32) (x2 : Int32) (x3 : Int32), lab = 0 → xs = [x1, x2, x3] → ys = [] → zs = [] → ∀ h : UH, HW (mkw c0 c1 c2 c3 c4 c5 c6 c7 c8 c9 c10 c11 c12 c13) d h → ∀ QQ : UR → Prop, QQ (some (.int r), h) → Ends (EX D) (u_at kl_98) (4, [some (.ref a0), some (.int x1), some (.int x2), some (.int x3)], [], h) QQ) := by
  refine G_98.partial_correctness _ _ _ (motive := fun lab xs ys zs r =>
    (∀ (x1 : Int32) (x2 : Int32) (x3 : Int32), lab = 0 → xs = [x1, x2, x3] → ys = [] → zs = [] → ∀ h : UH, HW (mkw c0 c1 c2 c3 c4 c5 c6 c7 c8 c9 c10 c11 c12 c13) d h → ∀ QQ : UR → Prop, QQ (some (.int r), h) → Ends (EX D) (u_at kl_98) (4, [some (.ref a0), some (.int x1), some (.int x2), some (.int x3)], [], h) QQ)) ?_
  intro G ih lab xs ys zs r hF
  · intro x1 x2 x3 e1 e2 e3 e4 h hW QQ hQ
    subst e1 e2 e3 e4
    refine en_segs [(4, .iload_n 3, []), (5, .aload_n 0, [])] (by decide +kernel) (y := (6, [some (.ref a0), some (.int x1), some (.int x2), some (.int x3)], [.ref a0, .int x3], h)) rfl ?_
    have k1 : aK d (cR c8 0 a0) = (0, 1, 0) := wf_obj hW ha0 (by decide) rfl
    refine en_get (by decide +kernel : u_at kl_98 6 = some (.getfield 42, [8, 0])) hW ha0 (by decide) rfl ?_
    refine en_get (by decide +kernel : u_at kl_98 9 = some (.getfield 96, [1, 2])) hW k1 (by decide) rfl ?_
    refine en_ic_ge (by decide +kernel : u_at kl_98 12 = some (.if_icmp .ge 33, [45])) (fun b2 => ?_) (fun b2 => ?_)
    · replace hF := i_pos b2 hF
      refine en_segs [(45, .iload_n 2, [])] (by decide +kernel) (y := (46, [some (.ref a0), some (.int x1), some (.int x2), some (.int x3)], [.int x2], h)) rfl ?_
      obtain rfl := Option.some.inj hF
      exact en_ret (by decide +kernel : u_at kl_98 46 = some (.ireturn, [0])) rfl (hQ)
    · replace hF := i_neg b2 hF
      refine en_segs [(15, .aload_n 0, []), (16, .iload_n 3, [])] (by decide +kernel) (y := (17, [some (.ref a0), some (.int x1), some (.int x2), some (.int x3)], [.int x3, .ref a0], h)) rfl ?_
      obtain ⟨r3, hr3, hF⟩ := ob_some hF
      refine en_vi (r := []) (by decide +kernel : u_at kl_98 17 = some (.invokevirtual 138, [83, 1, 8])) hW ha0 rfl rfl (Nat.le_of_ble_eq_true rfl) (e_83 (D := D) (by omega) hW ha0 hr3) (fun h' q => ?_)
      subst q
      obtain ⟨t4, hX, hK⟩ := ob_some hF
      have j5 : Ends (EX D) (u_at kl_98) (39, [some (.ref a0), some (.int x1), some (.int t4), some (.int x3)], [], h) QQ := by
        have hF := hK
        refine en_segs [(39, .iinc 3 1, []), (42, .goto (-38), [4])] (by decide +kernel) (y := (4, [some (.ref a0), some (.int x1), some (.int t4), some (.int (x3 + 1))], [], h)) rfl ?_
        exact (ih _ _ _ _ _ hF) _ _ _ rfl rfl rfl rfl  _ hW _ hQ
      have hF := hX
      refine en_if_eq (by decide +kernel : u_at kl_98 20 = some (.ifCond .eq 19, [39])) (fun b6 => ?_) (fun b6 => ?_)
      · replace hF := i_pos b6 hF
        obtain rfl := Option.some.inj hF
        exact j5
      · replace hF := i_neg b6 hF
        refine en_segs [(23, .aload_n 0, [])] (by decide +kernel) (y := (24, [some (.ref a0), some (.int x1), some (.int x2), some (.int x3)], [.ref a0], h)) rfl ?_
        refine en_get (by decide +kernel : u_at kl_98 24 = some (.getfield 9, [8, 4])) hW ha0 (by decide) rfl ?_
        refine en_segs [(27, .iload_n 3, [])] (by decide +kernel) (y := (28, [some (.ref a0), some (.int x1), some (.int x2), some (.int x3)], [.int x3, .ref (aP d 8 4 a0)], h)) rfl ?_
        obtain ⟨v7, hv7, hF⟩ := ob_some hF
        refine en_iald (by decide +kernel : u_at kl_98 28 = some (.iaload, [])) hW ha0 rfl (by decide) hv7 ?_
        refine en_segs [(29, .iload_n 1, [])] (by decide +kernel) (y := (30, [some (.ref a0), some (.int x1), some (.int x2), some (.int x3)], [.int x1, .int v7], h)) rfl ?_
        refine en_ic_ne (by decide +kernel : u_at kl_98 30 = some (.if_icmp .ne 9, [39])) (fun b8 => ?_) (fun b8 => ?_)
        · replace hF := i_pos b8 hF
          refine en_segs [(33, .iload_n 2, []), (34, .iconst 1, []), (35, .iload_n 3, []), (36, .ishl, []), (37, .ior, []), (38, .istore_n 2, [])] (by decide +kernel) (y := (39, [some (.ref a0), some (.int x1), some (.int (x2 ||| (1 <<< (x3 &&& 31)))), some (.int x3)], [], h)) rfl ?_
          obtain rfl := Option.some.inj hF
          exact j5
        · replace hF := i_neg b8 hF
          obtain rfl := Option.some.inj hF
          exact j5
def F_98 (c1 : Cl) (c8 : Cl) (a0 : Nat) (p1 : Int32) : Option Int32 :=
  G_98 c1 c8 a0 0 [p1, 0, 0] [] []
set_option maxRecDepth 100000 in
set_option maxHeartbeats 4000000 in
/-- HeadCounts$State.livingIn -/
theorem e_98 {D : Nat} {c0 c1 c2 c3 c4 c5 c6 c7 c8 c9 c10 c11 c12 c13 : Cl} {d : Ad} {h : UH} {a0 : Nat} {p1 : Int32} {r : Int32} (hD : 2 ≤ D) (hW : HW (mkw c0 c1 c2 c3 c4 c5 c6 c7 c8 c9 c10 c11 c12 c13) d h) (ha0 : aK d a0 = (0, 8, 0)) (hF : F_98 c1 c8 a0 p1 = some r) : ∃ q, EX D 98 [.ref a0, .int p1] h q ∧ q.1 = some (.int r) ∧ h = q.2 := by
  obtain ⟨D, rfl⟩ : ∃ E, D = E + 1 := ⟨D - 1, by omega⟩
  unfold F_98 at hF
  refine ex_in (kl := kl_98) (nL := 4) rfl (by decide +kernel) (Nat.le_of_ble_eq_true rfl) ?_
  obtain ⟨QQ, hQQ⟩ : ∃ QQ : UR → Prop, QQ = (fun q : UR => q.1 = some (.int r) ∧ h = q.2) := ⟨_, rfl⟩
  rw [← hQQ]
  have hQ : QQ (some (.int r), h) := by rw [hQQ]; exact ⟨rfl, rfl⟩
  clear hQQ
  show Ends (EX D) (u_at kl_98) (0, [some (.ref a0), some (.int p1), none, none], [], h) QQ
  refine en_segs [(0, .iconst 0, []), (1, .istore_n 2, []), (2, .iconst 0, []), (3, .istore_n 3, [])] (by decide +kernel) (y := (4, [some (.ref a0), some (.int p1), some (.int 0), some (.int 0)], [], h)) rfl ?_
  exact (g_98 (D := D) hD ha0 _ _ _ _ _ hF) _ _ _ rfl rfl rfl rfl  _ hW _ hQ
def G_99 (c1 : Cl) (c8 : Cl) (a0 : Nat) (lab : Nat) (xs : List Int32) (ys : List Int64) (zs : List Nat) : Option Int32 := match lab, xs, ys, zs with
  | 0, [x1, x2], [], [] =>
    if (cI c1 2 (cR c8 0 a0)) ≤ x2 then
    some x1
    else
    F_83 c8 a0 x2 >>= fun r3 =>
    ((if r3 = 0 then
    some 0
    else
    some 1) : Option (Int32)) >>= fun (t4 : Int32) =>
    G_99 c1 c8 a0 0 [x1 + t4, x2 + 1] [] []
  | _, _, _, _ => none
partial_fixpoint
set_option maxRecDepth 100000 in
set_option maxHeartbeats 4000000 in
theorem g_99 {D : Nat} (hD : 2 ≤ D + 1) {c0 c1 c2 c3 c4 c5 c6 c7 c8 c9 c10 c11 c12 c13 : Cl} {d : Ad} {a0 : Nat} (ha0 : aK d a0 = (0, 8, 0)) : ∀ (lab : Nat) (xs : List Int32) (ys : List Int64) (zs : List Nat) (r : Int32), G_99 c1 c8 a0 lab xs ys zs = some r →
    (∀ (x1 : Int32) (x2 : Int32), lab = 0 → xs = [x1, x2] → ys = [] → zs = [] → ∀ h : UH, HW (mkw c0 c1 c2 c3 c4 c5 c6 c7 c8 c9 c10 c11 c12 c13) d h → ∀ QQ : UR → Prop, QQ (some (.int r), h) → Ends (EX D) (u_at kl_99) (4, [some (.ref a0), some (.int x1), some (.int x2)], [], h) QQ) := by
  refine G_99.partial_correctness _ _ _ (motive := fun lab xs ys zs r =>
    (∀ (x1 : Int32) (x2 : Int32), lab = 0 → xs = [x1, x2] → ys = [] → zs = [] → ∀ h : UH, HW (mkw c0 c1 c2 c3 c4 c5 c6 c7 c8 c9 c10 c11 c12 c13) d h → ∀ QQ : UR → Prop, QQ (some (.int r), h) → Ends (EX D) (u_at kl_99) (4, [some (.ref a0), some (.int x1), some (.int x2)], [], h) QQ)) ?_
  intro G ih lab xs ys zs r hF
  · intro x1 x2 e1 e2 e3 e4 h hW QQ hQ
    subst e1 e2 e3 e4
    refine en_segs [(4, .iload_n 2, []), (5, .aload_n 0, [])] (by decide +kernel) (y := (6, [some (.ref a0), some (.int x1), some (.int x2)], [.ref a0, .int x2], h)) rfl ?_
    have k1 : aK d (cR c8 0 a0) = (0, 1, 0) := wf_obj hW ha0 (by decide) rfl
    refine en_get (by decide +kernel : u_at kl_99 6 = some (.getfield 42, [8, 0])) hW ha0 (by decide) rfl ?_
    refine en_get (by decide +kernel : u_at kl_99 9 = some (.getfield 96, [1, 2])) hW k1 (by decide) rfl ?_
    refine en_ic_ge (by decide +kernel : u_at kl_99 12 = some (.if_icmp .ge 25, [37])) (fun b2 => ?_) (fun b2 => ?_)
    · replace hF := i_pos b2 hF
      refine en_segs [(37, .iload_n 1, [])] (by decide +kernel) (y := (38, [some (.ref a0), some (.int x1), some (.int x2)], [.int x1], h)) rfl ?_
      obtain rfl := Option.some.inj hF
      exact en_ret (by decide +kernel : u_at kl_99 38 = some (.ireturn, [0])) rfl (hQ)
    · replace hF := i_neg b2 hF
      refine en_segs [(15, .iload_n 1, []), (16, .aload_n 0, []), (17, .iload_n 2, [])] (by decide +kernel) (y := (18, [some (.ref a0), some (.int x1), some (.int x2)], [.int x2, .ref a0, .int x1], h)) rfl ?_
      obtain ⟨r3, hr3, hF⟩ := ob_some hF
      refine en_vi (r := [.int x1]) (by decide +kernel : u_at kl_99 18 = some (.invokevirtual 138, [83, 1, 8])) hW ha0 rfl rfl (Nat.le_of_ble_eq_true rfl) (e_83 (D := D) (by omega) hW ha0 hr3) (fun h' q => ?_)
      subst q
      obtain ⟨t4, hX, hK⟩ := ob_some hF
      have j5 : Ends (EX D) (u_at kl_99) (29, [some (.ref a0), some (.int x1), some (.int x2)], [.int t4, .int x1], h) QQ := by
        have hF := hK
        refine en_segs [(29, .iadd, []), (30, .istore_n 1, []), (31, .iinc 2 1, []), (34, .goto (-30), [4])] (by decide +kernel) (y := (4, [some (.ref a0), some (.int (x1 + t4)), some (.int (x2 + 1))], [], h)) rfl ?_
        exact (ih _ _ _ _ _ hF) _ _ rfl rfl rfl rfl  _ hW _ hQ
      have hF := hX
      refine en_if_eq (by decide +kernel : u_at kl_99 21 = some (.ifCond .eq 7, [28])) (fun b6 => ?_) (fun b6 => ?_)
      · replace hF := i_pos b6 hF
        refine en_segs [(28, .iconst 0, [])] (by decide +kernel) (y := (29, [some (.ref a0), some (.int x1), some (.int x2)], [.int 0, .int x1], h)) rfl ?_
        obtain rfl := Option.some.inj hF
        exact j5
      · replace hF := i_neg b6 hF
        refine en_segs [(24, .iconst 1, []), (25, .goto 4, [29])] (by decide +kernel) (y := (29, [some (.ref a0), some (.int x1), some (.int x2)], [.int 1, .int x1], h)) rfl ?_
        obtain rfl := Option.some.inj hF
        exact j5
def F_99 (c1 : Cl) (c8 : Cl) (a0 : Nat) : Option Int32 :=
  G_99 c1 c8 a0 0 [0, 0] [] []
set_option maxRecDepth 100000 in
set_option maxHeartbeats 4000000 in
/-- HeadCounts$State.countLiving -/
theorem e_99 {D : Nat} {c0 c1 c2 c3 c4 c5 c6 c7 c8 c9 c10 c11 c12 c13 : Cl} {d : Ad} {h : UH} {a0 : Nat} {r : Int32} (hD : 2 ≤ D) (hW : HW (mkw c0 c1 c2 c3 c4 c5 c6 c7 c8 c9 c10 c11 c12 c13) d h) (ha0 : aK d a0 = (0, 8, 0)) (hF : F_99 c1 c8 a0 = some r) : ∃ q, EX D 99 [.ref a0] h q ∧ q.1 = some (.int r) ∧ h = q.2 := by
  obtain ⟨D, rfl⟩ : ∃ E, D = E + 1 := ⟨D - 1, by omega⟩
  unfold F_99 at hF
  refine ex_in (kl := kl_99) (nL := 3) rfl (by decide +kernel) (Nat.le_of_ble_eq_true rfl) ?_
  obtain ⟨QQ, hQQ⟩ : ∃ QQ : UR → Prop, QQ = (fun q : UR => q.1 = some (.int r) ∧ h = q.2) := ⟨_, rfl⟩
  rw [← hQQ]
  have hQ : QQ (some (.int r), h) := by rw [hQQ]; exact ⟨rfl, rfl⟩
  clear hQQ
  show Ends (EX D) (u_at kl_99) (0, [some (.ref a0), none, none], [], h) QQ
  refine en_segs [(0, .iconst 0, []), (1, .istore_n 1, []), (2, .iconst 0, []), (3, .istore_n 2, [])] (by decide +kernel) (y := (4, [some (.ref a0), some (.int 0), some (.int 0)], [], h)) rfl ?_
  exact (g_99 (D := D) hD ha0 _ _ _ _ _ hF) _ _ rfl rfl rfl rfl  _ hW _ hQ
def G_100 (c1 : Cl) (c8 : Cl) (a0 : Nat) (lab : Nat) (xs : List Int32) (ys : List Int64) (zs : List Nat) : Option Int32 := match lab, xs, ys, zs with
  | 0, [x1, x2], [], [] =>
    if (cI c1 2 (cR c8 0 a0)) ≤ x2 then
    some x1
    else
    ald (cA c8 6 a0) 6 x2 >>= fun v3 =>
    G_100 c1 c8 a0 0 [x1 + v3, x2 + 1] [] []
  | _, _, _, _ => none
partial_fixpoint
set_option maxRecDepth 100000 in
set_option maxHeartbeats 4000000 in
theorem g_100 {D : Nat} (hD : 1 ≤ D + 1) {c0 c1 c2 c3 c4 c5 c6 c7 c8 c9 c10 c11 c12 c13 : Cl} {d : Ad} {a0 : Nat} (ha0 : aK d a0 = (0, 8, 0)) : ∀ (lab : Nat) (xs : List Int32) (ys : List Int64) (zs : List Nat) (r : Int32), G_100 c1 c8 a0 lab xs ys zs = some r →
    (∀ (x1 : Int32) (x2 : Int32), lab = 0 → xs = [x1, x2] → ys = [] → zs = [] → ∀ h : UH, HW (mkw c0 c1 c2 c3 c4 c5 c6 c7 c8 c9 c10 c11 c12 c13) d h → ∀ QQ : UR → Prop, QQ (some (.int r), h) → Ends (EX D) (u_at kl_100) (4, [some (.ref a0), some (.int x1), some (.int x2)], [], h) QQ) := by
  refine G_100.partial_correctness _ _ _ (motive := fun lab xs ys zs r =>
    (∀ (x1 : Int32) (x2 : Int32), lab = 0 → xs = [x1, x2] → ys = [] → zs = [] → ∀ h : UH, HW (mkw c0 c1 c2 c3 c4 c5 c6 c7 c8 c9 c10 c11 c12 c13) d h → ∀ QQ : UR → Prop, QQ (some (.int r), h) → Ends (EX D) (u_at kl_100) (4, [some (.ref a0), some (.int x1), some (.int x2)], [], h) QQ)) ?_
  intro G ih lab xs ys zs r hF
  · intro x1 x2 e1 e2 e3 e4 h hW QQ hQ
    subst e1 e2 e3 e4
    refine en_segs [(4, .iload_n 2, []), (5, .aload_n 0, [])] (by decide +kernel) (y := (6, [some (.ref a0), some (.int x1), some (.int x2)], [.ref a0, .int x2], h)) rfl ?_
    have k1 : aK d (cR c8 0 a0) = (0, 1, 0) := wf_obj hW ha0 (by decide) rfl
    refine en_get (by decide +kernel : u_at kl_100 6 = some (.getfield 42, [8, 0])) hW ha0 (by decide) rfl ?_
    refine en_get (by decide +kernel : u_at kl_100 9 = some (.getfield 96, [1, 2])) hW k1 (by decide) rfl ?_
    refine en_ic_ge (by decide +kernel : u_at kl_100 12 = some (.if_icmp .ge 18, [30])) (fun b2 => ?_) (fun b2 => ?_)
    · replace hF := i_pos b2 hF
      refine en_segs [(30, .iload_n 1, [])] (by decide +kernel) (y := (31, [some (.ref a0), some (.int x1), some (.int x2)], [.int x1], h)) rfl ?_
      obtain rfl := Option.some.inj hF
      exact en_ret (by decide +kernel : u_at kl_100 31 = some (.ireturn, [0])) rfl (hQ)
    · replace hF := i_neg b2 hF
      refine en_segs [(15, .iload_n 1, []), (16, .aload_n 0, [])] (by decide +kernel) (y := (17, [some (.ref a0), some (.int x1), some (.int x2)], [.ref a0, .int x1], h)) rfl ?_
      refine en_get (by decide +kernel : u_at kl_100 17 = some (.getfield 18, [8, 6])) hW ha0 (by decide) rfl ?_
      refine en_segs [(20, .iload_n 2, [])] (by decide +kernel) (y := (21, [some (.ref a0), some (.int x1), some (.int x2)], [.int x2, .ref (aP d 8 6 a0), .int x1], h)) rfl ?_
      obtain ⟨v3, hv3, hF⟩ := ob_some hF
      refine en_iald (by decide +kernel : u_at kl_100 21 = some (.iaload, [])) hW ha0 rfl (by decide) hv3 ?_
      refine en_segs [(22, .iadd, []), (23, .istore_n 1, []), (24, .iinc 2 1, []), (27, .goto (-23), [4])] (by decide +kernel) (y := (4, [some (.ref a0), some (.int (x1 + v3)), some (.int (x2 + 1))], [], h)) rfl ?_
      exact (ih _ _ _ _ _ hF) _ _ rfl rfl rfl rfl  _ hW _ hQ
def F_100 (c1 : Cl) (c8 : Cl) (a0 : Nat) : Option Int32 :=
  G_100 c1 c8 a0 0 [0, 0] [] []
set_option maxRecDepth 100000 in
set_option maxHeartbeats 4000000 in
/-- HeadCounts$State.countGoings -/
theorem e_100 {D : Nat} {c0 c1 c2 c3 c4 c5 c6 c7 c8 c9 c10 c11 c12 c13 : Cl} {d : Ad} {h : UH} {a0 : Nat} {r : Int32} (hD : 1 ≤ D) (hW : HW (mkw c0 c1 c2 c3 c4 c5 c6 c7 c8 c9 c10 c11 c12 c13) d h) (ha0 : aK d a0 = (0, 8, 0)) (hF : F_100 c1 c8 a0 = some r) : ∃ q, EX D 100 [.ref a0] h q ∧ q.1 = some (.int r) ∧ h = q.2 := by
  obtain ⟨D, rfl⟩ : ∃ E, D = E + 1 := ⟨D - 1, by omega⟩
  unfold F_100 at hF
  refine ex_in (kl := kl_100) (nL := 3) rfl (by decide +kernel) (Nat.le_of_ble_eq_true rfl) ?_
  obtain ⟨QQ, hQQ⟩ : ∃ QQ : UR → Prop, QQ = (fun q : UR => q.1 = some (.int r) ∧ h = q.2) := ⟨_, rfl⟩
  rw [← hQQ]
  have hQ : QQ (some (.int r), h) := by rw [hQQ]; exact ⟨rfl, rfl⟩
  clear hQQ
  show Ends (EX D) (u_at kl_100) (0, [some (.ref a0), none, none], [], h) QQ
  refine en_segs [(0, .iconst 0, []), (1, .istore_n 1, []), (2, .iconst 0, []), (3, .istore_n 2, [])] (by decide +kernel) (y := (4, [some (.ref a0), some (.int 0), some (.int 0)], [], h)) rfl ?_
  exact (g_100 (D := D) hD ha0 _ _ _ _ _ hF) _ _ rfl rfl rfl rfl  _ hW _ hQ
def G_101 (c1 : Cl) (c8 : Cl) (a0 : Nat) (lab : Nat) (xs : List Int32) (ys : List Int64) (zs : List Nat) : Option Int32 := match lab, xs, ys, zs with
  | 0, [x1, x2, x3], [], [] =>
    if (cI c1 0 (cR c8 0 a0)) ≤ x3 then
    some x2
    else
    F_91 c1 c8 a0 x1 x3 >>= fun r3 =>
    ((if r3 = 0 then
    some x2
    else
    some (x2 ||| (1 <<< (x3 &&& 31)))) : Option (Int32)) >>= fun (t4 : Int32) =>
    G_101 c1 c8 a0 0 [x1, t4, x3 + 1] [] []
  | _, _, _, _ => none
partial_fixpoint
set_option maxRecDepth 100000 in
set_option maxHeartbeats 4000000 in
theorem g_101 {D : Nat} (hD : 2 ≤ D + 1) {c0 c1 c2 c3 c4 c5 c6 c7 c8 c9 c10 c11 c12 c13 : Cl} {d : Ad} {a0 : Nat} (ha0 : aK d a0 = (0, 8, 0)) : ∀ (lab : Nat) (xs : List Int32) (ys : List Int64) (zs : List Nat) (r : Int32), G_101 c1 c8 a0 lab xs ys zs = some r →
    (∀ (x1 : Int32) (x2 : Int32) (x3 : Int32), lab = 0 → xs = [x1, x2, x3] → ys = [] → zs = [] → ∀ h : UH, HW (mkw c0 c1 c2 c3 c4 c5 c6 c7 c8 c9 c10 c11 c12 c13) d h → ∀ QQ : UR → Prop, QQ (some (.int r), h) → Ends (EX D) (u_at kl_101) (4, [some (.ref a0), some (.int x1), some (.int x2), some (.int x3)], [], h) QQ) := by
  refine G_101.partial_correctness _ _ _ (motive := fun lab xs ys zs r =>
    (∀ (x1 : Int32) (x2 : Int32) (x3 : Int32), lab = 0 → xs = [x1, x2, x3] → ys = [] → zs = [] → ∀ h : UH, HW (mkw c0 c1 c2 c3 c4 c5 c6 c7 c8 c9 c10 c11 c12 c13) d h → ∀ QQ : UR → Prop, QQ (some (.int r), h) → Ends (EX D) (u_at kl_101) (4, [some (.ref a0), some (.int x1), some (.int x2), some (.int x3)], [], h) QQ)) ?_
  intro G ih lab xs ys zs r hF
  · intro x1 x2 x3 e1 e2 e3 e4 h hW QQ hQ
    subst e1 e2 e3 e4
    refine en_segs [(4, .iload_n 3, []), (5, .aload_n 0, [])] (by decide +kernel) (y := (6, [some (.ref a0), some (.int x1), some (.int x2), some (.int x3)], [.ref a0, .int x3], h)) rfl ?_
    have k1 : aK d (cR c8 0 a0) = (0, 1, 0) := wf_obj hW ha0 (by decide) rfl
    refine en_get (by decide +kernel : u_at kl_101 6 = some (.getfield 42, [8, 0])) hW ha0 (by decide) rfl ?_
    refine en_get (by decide +kernel : u_at kl_101 9 = some (.getfield 114, [1, 0])) hW k1 (by decide) rfl ?_
    refine en_ic_ge (by decide +kernel : u_at kl_101 12 = some (.if_icmp .ge 24, [36])) (fun b2 => ?_) (fun b2 => ?_)
    · replace hF := i_pos b2 hF
      refine en_segs [(36, .iload_n 2, [])] (by decide +kernel) (y := (37, [some (.ref a0), some (.int x1), some (.int x2), some (.int x3)], [.int x2], h)) rfl ?_
      obtain rfl := Option.some.inj hF
      exact en_ret (by decide +kernel : u_at kl_101 37 = some (.ireturn, [0])) rfl (hQ)
    · replace hF := i_neg b2 hF
      refine en_segs [(15, .aload_n 0, []), (16, .iload_n 1, []), (17, .iload_n 3, [])] (by decide +kernel) (y := (18, [some (.ref a0), some (.int x1), some (.int x2), some (.int x3)], [.int x3, .int x1, .ref a0], h)) rfl ?_
      obtain ⟨r3, hr3, hF⟩ := ob_some hF
      refine en_vi (r := []) (by decide +kernel : u_at kl_101 18 = some (.invokevirtual 141, [91, 2, 8])) hW ha0 rfl rfl (Nat.le_of_ble_eq_true rfl) (e_91 (D := D) (by omega) hW ha0 hr3) (fun h' q => ?_)
      subst q
      obtain ⟨t4, hX, hK⟩ := ob_some hF
      have j5 : Ends (EX D) (u_at kl_101) (30, [some (.ref a0), some (.int x1), some (.int t4), some (.int x3)], [], h) QQ := by
        have hF := hK
        refine en_segs [(30, .iinc 3 1, []), (33, .goto (-29), [4])] (by decide +kernel) (y := (4, [some (.ref a0), some (.int x1), some (.int t4), some (.int (x3 + 1))], [], h)) rfl ?_
        exact (ih _ _ _ _ _ hF) _ _ _ rfl rfl rfl rfl  _ hW _ hQ
      have hF := hX
      refine en_if_eq (by decide +kernel : u_at kl_101 21 = some (.ifCond .eq 9, [30])) (fun b6 => ?_) (fun b6 => ?_)
      · replace hF := i_pos b6 hF
        obtain rfl := Option.some.inj hF
        exact j5
      · replace hF := i_neg b6 hF
        refine en_segs [(24, .iload_n 2, []), (25, .iconst 1, []), (26, .iload_n 3, []), (27, .ishl, []), (28, .ior, []), (29, .istore_n 2, [])] (by decide +kernel) (y := (30, [some (.ref a0), some (.int x1), some (.int (x2 ||| (1 <<< (x3 &&& 31)))), some (.int x3)], [], h)) rfl ?_
        obtain rfl := Option.some.inj hF
        exact j5
def F_101 (c1 : Cl) (c8 : Cl) (a0 : Nat) (p1 : Int32) : Option Int32 :=
  G_101 c1 c8 a0 0 [p1, 0, 0] [] []
set_option maxRecDepth 100000 in
set_option maxHeartbeats 4000000 in
/-- HeadCounts$State.roomsFor -/
theorem e_101 {D : Nat} {c0 c1 c2 c3 c4 c5 c6 c7 c8 c9 c10 c11 c12 c13 : Cl} {d : Ad} {h : UH} {a0 : Nat} {p1 : Int32} {r : Int32} (hD : 2 ≤ D) (hW : HW (mkw c0 c1 c2 c3 c4 c5 c6 c7 c8 c9 c10 c11 c12 c13) d h) (ha0 : aK d a0 = (0, 8, 0)) (hF : F_101 c1 c8 a0 p1 = some r) : ∃ q, EX D 101 [.ref a0, .int p1] h q ∧ q.1 = some (.int r) ∧ h = q.2 := by
  obtain ⟨D, rfl⟩ : ∃ E, D = E + 1 := ⟨D - 1, by omega⟩
  unfold F_101 at hF
  refine ex_in (kl := kl_101) (nL := 4) rfl (by decide +kernel) (Nat.le_of_ble_eq_true rfl) ?_
  obtain ⟨QQ, hQQ⟩ : ∃ QQ : UR → Prop, QQ = (fun q : UR => q.1 = some (.int r) ∧ h = q.2) := ⟨_, rfl⟩
  rw [← hQQ]
  have hQ : QQ (some (.int r), h) := by rw [hQQ]; exact ⟨rfl, rfl⟩
  clear hQQ
  show Ends (EX D) (u_at kl_101) (0, [some (.ref a0), some (.int p1), none, none], [], h) QQ
  refine en_segs [(0, .iconst 0, []), (1, .istore_n 2, []), (2, .iconst 0, []), (3, .istore_n 3, [])] (by decide +kernel) (y := (4, [some (.ref a0), some (.int p1), some (.int 0), some (.int 0)], [], h)) rfl ?_
  exact (g_101 (D := D) hD ha0 _ _ _ _ _ hF) _ _ _ rfl rfl rfl rfl  _ hW _ hQ
def F_299 (p1 : Int32) : Option Int32 :=
  if 0 < ((p1 ^^^ (-1)) &&& (p1 - 1)) then
  ((if ((p1 ^^^ (-1)) &&& (p1 - 1)) ≤ 65536 then
  some ((p1 ^^^ (-1)) &&& (p1 - 1), 1)
  else
  some (iush ((p1 ^^^ (-1)) &&& (p1 - 1)) 16, 1 + 16)) : Option (Int32 × Int32)) >>= fun (t2 : Int32 × Int32) =>
  ((if t2.1 ≤ 256 then
  some (t2.1, t2.2)
  else
  some (iush t2.1 8, t2.2 + 8)) : Option (Int32 × Int32)) >>= fun (t4 : Int32 × Int32) =>
  ((if t4.1 ≤ 16 then
  some (t4.1, t4.2)
  else
  some (iush t4.1 4, t4.2 + 4)) : Option (Int32 × Int32)) >>= fun (t6 : Int32 × Int32) =>
  ((if t6.1 ≤ 4 then
  some (t6.1, t6.2)
  else
  some (iush t6.1 2, t6.2 + 2)) : Option (Int32 × Int32)) >>= fun (t8 : Int32 × Int32) =>
  some (t8.2 + (iush t8.1 1))
  else
  some (((p1 ^^^ (-1)) &&& (p1 - 1)) &&& 32)
set_option maxRecDepth 100000 in
set_option maxHeartbeats 4000000 in
/-- java/lang/Integer.numberOfTrailingZeros -/
theorem e_299 {D : Nat} {c0 c1 c2 c3 c4 c5 c6 c7 c8 c9 c10 c11 c12 c13 : Cl} {d : Ad} {h : UH} {p1 : Int32} {r : Int32} (hD : 1 ≤ D) (hW : HW (mkw c0 c1 c2 c3 c4 c5 c6 c7 c8 c9 c10 c11 c12 c13) d h) (hF : F_299 p1 = some r) : ∃ q, EX D 299 [.int p1] h q ∧ q.1 = some (.int r) ∧ h = q.2 := by
  obtain ⟨D, rfl⟩ : ∃ E, D = E + 1 := ⟨D - 1, by omega⟩
  unfold F_299 at hF
  refine ex_in (kl := kl_299) (nL := 2) rfl (by decide +kernel) (Nat.le_of_ble_eq_true rfl) ?_
  obtain ⟨QQ, hQQ⟩ : ∃ QQ : UR → Prop, QQ = (fun q : UR => q.1 = some (.int r) ∧ h = q.2) := ⟨_, rfl⟩
  rw [← hQQ]
  have hQ : QQ (some (.int r), h) := by rw [hQQ]; exact ⟨rfl, rfl⟩
  clear hQQ
  show Ends (EX D) (u_at kl_299) (0, [some (.int p1), none], [], h) QQ
  refine en_segs [(0, .iload_n 0, []), (1, .iconst (-1), []), (2, .ixor, []), (3, .iload_n 0, []), (4, .iconst 1, []), (5, .isub, []), (6, .iand, []), (7, .istore_n 0, []), (8, .iload_n 0, [])] (by decide +kernel) (y := (9, [some (.int ((p1 ^^^ (-1)) &&& (p1 - 1))), none], [.int ((p1 ^^^ (-1)) &&& (p1 - 1))], h)) rfl ?_
  refine en_if_gt (by decide +kernel : u_at kl_299 9 = some (.ifCond .gt 8, [17])) (fun b1 => ?_) (fun b1 => ?_)
  · replace hF := i_pos b1 hF
    refine en_segs [(17, .iconst 1, []), (18, .istore_n 1, []), (19, .iload_n 0, []), (20, .ldc_w 264, [65536])] (by decide +kernel) (y := (23, [some (.int ((p1 ^^^ (-1)) &&& (p1 - 1))), some (.int 1)], [.int 65536, .int ((p1 ^^^ (-1)) &&& (p1 - 1))], h)) rfl ?_
    obtain ⟨t2, hX, hK⟩ := ob_some hF
    have j3 : Ends (EX D) (u_at kl_299) (34, [some (.int t2.1), some (.int t2.2)], [], h) QQ := by
      have hF := hK
      refine en_segs [(34, .iload_n 0, []), (35, .sipush 256, [])] (by decide +kernel) (y := (38, [some (.int t2.1), some (.int t2.2)], [.int 256, .int t2.1], h)) rfl ?_
      obtain ⟨t4, hX, hK⟩ := ob_some hF
      have j5 : Ends (EX D) (u_at kl_299) (49, [some (.int t4.1), some (.int t4.2)], [], h) QQ := by
        have hF := hK
        refine en_segs [(49, .iload_n 0, []), (50, .bipush 16, [])] (by decide +kernel) (y := (52, [some (.int t4.1), some (.int t4.2)], [.int 16, .int t4.1], h)) rfl ?_
        obtain ⟨t6, hX, hK⟩ := ob_some hF
        have j7 : Ends (EX D) (u_at kl_299) (62, [some (.int t6.1), some (.int t6.2)], [], h) QQ := by
          have hF := hK
          refine en_segs [(62, .iload_n 0, []), (63, .iconst 4, [])] (by decide +kernel) (y := (64, [some (.int t6.1), some (.int t6.2)], [.int 4, .int t6.1], h)) rfl ?_
          obtain ⟨t8, hX, hK⟩ := ob_some hF
          have j9 : Ends (EX D) (u_at kl_299) (74, [some (.int t8.1), some (.int t8.2)], [], h) QQ := by
            have hF := hK
            refine en_segs [(74, .iload_n 1, []), (75, .iload_n 0, []), (76, .iconst 1, []), (77, .iushr, []), (78, .iadd, [])] (by decide +kernel) (y := (79, [some (.int t8.1), some (.int t8.2)], [.int (t8.2 + (iush t8.1 1))], h)) rfl ?_
            obtain rfl := Option.some.inj hF
            exact en_ret (by decide +kernel : u_at kl_299 79 = some (.ireturn, [0])) rfl (hQ)
          have hF := hX
          refine en_ic_le (by decide +kernel : u_at kl_299 64 = some (.if_icmp .le 10, [74])) (fun b10 => ?_) (fun b10 => ?_)
          · replace hF := i_pos b10 hF
            obtain rfl := Option.some.inj hF
            exact j9
          · replace hF := i_neg b10 hF
            refine en_segs [(67, .iinc 1 2, []), (70, .iload_n 0, []), (71, .iconst 2, []), (72, .iushr, []), (73, .istore_n 0, [])] (by decide +kernel) (y := (74, [some (.int (iush t6.1 2)), some (.int (t6.2 + 2))], [], h)) rfl ?_
            obtain rfl := Option.some.inj hF
            exact j9
        have hF := hX
        refine en_ic_le (by decide +kernel : u_at kl_299 52 = some (.if_icmp .le 10, [62])) (fun b11 => ?_) (fun b11 => ?_)
        · replace hF := i_pos b11 hF
          obtain rfl := Option.some.inj hF
          exact j7
        · replace hF := i_neg b11 hF
          refine en_segs [(55, .iinc 1 4, []), (58, .iload_n 0, []), (59, .iconst 4, []), (60, .iushr, []), (61, .istore_n 0, [])] (by decide +kernel) (y := (62, [some (.int (iush t4.1 4)), some (.int (t4.2 + 4))], [], h)) rfl ?_
          obtain rfl := Option.some.inj hF
          exact j7
      have hF := hX
      refine en_ic_le (by decide +kernel : u_at kl_299 38 = some (.if_icmp .le 11, [49])) (fun b12 => ?_) (fun b12 => ?_)
      · replace hF := i_pos b12 hF
        obtain rfl := Option.some.inj hF
        exact j5
      · replace hF := i_neg b12 hF
        refine en_segs [(41, .iinc 1 8, []), (44, .iload_n 0, []), (45, .bipush 8, []), (47, .iushr, []), (48, .istore_n 0, [])] (by decide +kernel) (y := (49, [some (.int (iush t2.1 8)), some (.int (t2.2 + 8))], [], h)) rfl ?_
        obtain rfl := Option.some.inj hF
        exact j5
    have hF := hX
    refine en_ic_le (by decide +kernel : u_at kl_299 23 = some (.if_icmp .le 11, [34])) (fun b13 => ?_) (fun b13 => ?_)
    · replace hF := i_pos b13 hF
      obtain rfl := Option.some.inj hF
      exact j3
    · replace hF := i_neg b13 hF
      refine en_segs [(26, .iinc 1 16, []), (29, .iload_n 0, []), (30, .bipush 16, []), (32, .iushr, []), (33, .istore_n 0, [])] (by decide +kernel) (y := (34, [some (.int (iush ((p1 ^^^ (-1)) &&& (p1 - 1)) 16)), some (.int (1 + 16))], [], h)) rfl ?_
      obtain rfl := Option.some.inj hF
      exact j3
  · replace hF := i_neg b1 hF
    refine en_segs [(12, .iload_n 0, []), (13, .bipush 32, []), (15, .iand, [])] (by decide +kernel) (y := (16, [some (.int ((p1 ^^^ (-1)) &&& (p1 - 1))), none], [.int (((p1 ^^^ (-1)) &&& (p1 - 1)) &&& 32)], h)) rfl ?_
    obtain rfl := Option.some.inj hF
    exact en_ret (by decide +kernel : u_at kl_299 16 = some (.ireturn, [0])) rfl (hQ)
def G_102 (c1 : Cl) (c8 : Cl) (a0 : Nat) (lab : Nat) (xs : List Int32) (ys : List Int64) (zs : List Nat) : Option Int32 := match lab, xs, ys, zs with
  | 0, [x2, x3, x4], [], [] =>
    if x2 ≤ x4 then
    F_299 x3 >>= fun r3 =>
    some r3
    else
    G_102 c1 c8 a0 0 [x2, x3 &&& (x3 - 1), x4 + 1] [] []
  | _, _, _, _ => none
partial_fixpoint
set_option maxRecDepth 100000 in
set_option maxHeartbeats 4000000 in
theorem g_102 {D : Nat} (hD : 3 ≤ D + 1) {c0 c1 c2 c3 c4 c5 c6 c7 c8 c9 c10 c11 c12 c13 : Cl} {d : Ad} {a0 : Nat} (ha0 : aK d a0 = (0, 8, 0)) : ∀ (lab : Nat) (xs : List Int32) (ys : List Int64) (zs : List Nat) (r : Int32), G_102 c1 c8 a0 lab xs ys zs = some r →
    (∀ (x2 : Int32) (x3 : Int32) (x4 : Int32), lab = 0 → xs = [x2, x3, x4] → ys = [] → zs = [] → ∀ h : UH, HW (mkw c0 c1 c2 c3 c4 c5 c6 c7 c8 c9 c10 c11 c12 c13) d h → ∀ QQ : UR → Prop, QQ (some (.int r), h) → Ends (EX D) (u_at kl_102) (9, [none, none, some (.int x2), some (.int x3), some (.int x4)], [], h) QQ) := by
  refine G_102.partial_correctness _ _ _ (motive := fun lab xs ys zs r =>
    (∀ (x2 : Int32) (x3 : Int32) (x4 : Int32), lab = 0 → xs = [x2, x3, x4] → ys = [] → zs = [] → ∀ h : UH, HW (mkw c0 c1 c2 c3 c4 c5 c6 c7 c8 c9 c10 c11 c12 c13) d h → ∀ QQ : UR → Prop, QQ (some (.int r), h) → Ends (EX D) (u_at kl_102) (9, [none, none, some (.int x2), some (.int x3), some (.int x4)], [], h) QQ)) ?_
  intro G ih lab xs ys zs r hF
  · intro x2 x3 x4 e1 e2 e3 e4 h hW QQ hQ
    subst e1 e2 e3 e4
    refine en_segs [(9, .iload 4, []), (11, .iload_n 2, [])] (by decide +kernel) (y := (12, [none, none, some (.int x2), some (.int x3), some (.int x4)], [.int x2, .int x4], h)) rfl ?_
    refine en_ic_ge (by decide +kernel : u_at kl_102 12 = some (.if_icmp .ge 15, [27])) (fun b2 => ?_) (fun b2 => ?_)
    · replace hF := i_pos b2 hF
      refine en_segs [(27, .iload_n 3, [])] (by decide +kernel) (y := (28, [none, none, some (.int x2), some (.int x3), some (.int x4)], [.int x3], h)) rfl ?_
      obtain ⟨r3, hr3, hF⟩ := ob_some hF
      refine en_si (r := []) (by decide +kernel : u_at kl_102 28 = some (.invokestatic 148, [299, 1])) rfl rfl (Nat.le_of_ble_eq_true rfl) (e_299 (D := D) (by omega) hW hr3) (fun h' q => ?_)
      subst q
      obtain rfl := Option.some.inj hF
      exact en_ret (by decide +kernel : u_at kl_102 31 = some (.ireturn, [0])) rfl (hQ)
    · replace hF := i_neg b2 hF
      refine en_segs [(15, .iload_n 3, []), (16, .iload_n 3, []), (17, .iconst 1, []), (18, .isub, []), (19, .iand, []), (20, .istore_n 3, []), (21, .iinc 4 1, []), (24, .goto (-15), [9])] (by decide +kernel) (y := (9, [none, none, some (.int x2), some (.int (x3 &&& (x3 - 1))), some (.int (x4 + 1))], [], h)) rfl ?_
      exact (ih _ _ _ _ _ hF) _ _ _ rfl rfl rfl rfl  _ hW _ hQ
def F_102 (c1 : Cl) (c8 : Cl) (a0 : Nat) (p1 : Int32) (p2 : Int32) : Option Int32 :=
  F_101 c1 c8 a0 p1 >>= fun r1 =>
  G_102 c1 c8 a0 0 [p2, r1, 0] [] []
set_option maxRecDepth 100000 in
set_option maxHeartbeats 4000000 in
/-- HeadCounts$State.roomAmong -/
theorem e_102 {D : Nat} {c0 c1 c2 c3 c4 c5 c6 c7 c8 c9 c10 c11 c12 c13 : Cl} {d : Ad} {h : UH} {a0 : Nat} {p1 : Int32} {p2 : Int32} {r : Int32} (hD : 3 ≤ D) (hW : HW (mkw c0 c1 c2 c3 c4 c5 c6 c7 c8 c9 c10 c11 c12 c13) d h) (ha0 : aK d a0 = (0, 8, 0)) (hF : F_102 c1 c8 a0 p1 p2 = some r) : ∃ q, EX D 102 [.ref a0, .int p1, .int p2] h q ∧ q.1 = some (.int r) ∧ h = q.2 := by
  obtain ⟨D, rfl⟩ : ∃ E, D = E + 1 := ⟨D - 1, by omega⟩
  unfold F_102 at hF
  refine ex_in (kl := kl_102) (nL := 5) rfl (by decide +kernel) (Nat.le_of_ble_eq_true rfl) ?_
  obtain ⟨QQ, hQQ⟩ : ∃ QQ : UR → Prop, QQ = (fun q : UR => q.1 = some (.int r) ∧ h = q.2) := ⟨_, rfl⟩
  rw [← hQQ]
  have hQ : QQ (some (.int r), h) := by rw [hQQ]; exact ⟨rfl, rfl⟩
  clear hQQ
  show Ends (EX D) (u_at kl_102) (0, [some (.ref a0), some (.int p1), some (.int p2), none, none], [], h) QQ
  refine en_segs [(0, .aload_n 0, []), (1, .iload_n 1, [])] (by decide +kernel) (y := (2, [some (.ref a0), some (.int p1), some (.int p2), none, none], [.int p1, .ref a0], h)) rfl ?_
  obtain ⟨r1, hr1, hF⟩ := ob_some hF
  refine en_vi (r := []) (by decide +kernel : u_at kl_102 2 = some (.invokevirtual 145, [101, 1, 8])) hW ha0 rfl rfl (Nat.le_of_ble_eq_true rfl) (e_101 (D := D) (by omega) hW ha0 hr1) (fun h' q => ?_)
  subst q
  refine en_segs [(5, .istore_n 3, []), (6, .iconst 0, []), (7, .istore 4, [])] (by decide +kernel) (y := (9, [some (.ref a0), some (.int p1), some (.int p2), some (.int r1), some (.int 0)], [], h)) rfl ?_
  refine en_fg (fg_d (fg_d (fg_k (fg_k (fg_k fg_0))))) ?_
  exact (g_102 (D := D) hD ha0 _ _ _ _ _ hF) _ _ _ rfl rfl rfl rfl  _ hW _ hQ
def G_108 (c1 : Cl) (c6 : Cl) (c8 : Cl) (a0 : Nat) (a1 : Nat) (lab : Nat) (xs : List Int32) (ys : List Int64) (zs : List Nat) (c9 : Cl) : Option (Cl × Cl) := match lab, xs, ys, zs with
  | 0, [x2], [], [] =>
    if (cI c6 1 (cR c9 0 a0)) ≤ x2 then
    some (c6, c9)
    else
    G_108 c1 c6 c8 a0 a1 1 [x2, 0] [] [] c9
  | 1, [x2, x3], [], [] =>
    if (cI c6 0 (cR c9 0 a0)) ≤ x3 then
    G_108 c1 c6 c8 a0 a1 0 [x2 + 1] [] [] c9
    else
    F_60 c6 (cR c9 0 a0) x2 x3 >>= fun r8 =>
    ((if r8 = 0 then
    some c9
    else
    ald (cA c6 10 (cR c9 0 a0)) 6 x2 >>= fun v12 =>
    ast c9 2 a0 36 (cI c9 1 a0) v12 >>= fun c9_13 =>
    ast c9_13 3 a0 36 (cI c9_13 1 a0) x3 >>= fun c9_14 =>
    ald (cA c6 5 (cR c9_14 0 a0)) 6 x2 >>= fun v16 =>
    ast c9_14 4 a0 36 (cI c9_14 1 a0) v16 >>= fun c9_17 =>
    some (sI c9_17 1 a0 ((cI c9_17 1 a0) + 1)) >>= fun c9_18 =>
    some c9_18) : Option (Cl)) >>= fun (t9 : Cl) =>
    G_108 c1 c6 c8 a0 a1 1 [x2, x3 + 1] [] [] t9
  | _, _, _, _ => none
partial_fixpoint
set_option maxRecDepth 100000 in
set_option maxHeartbeats 4000000 in
theorem g_108 {D : Nat} (hD : 4 ≤ D + 1) {c0 c1 c2 c3 c4 c5 c6 c7 c8 c10 c11 c12 c13 : Cl} {d : Ad} {a0 : Nat} {a1 : Nat} (ha0 : aK d a0 = (0, 9, 0)) (ha1 : aK d a1 = (0, 8, 0)) : ∀ (lab : Nat) (xs : List Int32) (ys : List Int64) (zs : List Nat) (c9 : Cl) (r : (Cl × Cl)), G_108 c1 c6 c8 a0 a1 lab xs ys zs c9 = some r →
    (∀ (x2 : Int32), lab = 0 → xs = [x2] → ys = [] → zs = [] → ∀ h : UH, HW (mkw c0 c1 c2 c3 c4 c5 c6 c7 c8 c9 c10 c11 c12 c13) d h → ∀ QQ : UR → Prop, (∀ h' : UH, HW (mkw c0 c1 c2 c3 c4 c5 r.1 c7 c8 r.2 c10 c11 c12 c13) d h' → QQ (none, h')) → Ends (EX D) (u_at kl_108) (15, [some (.ref a0), none, some (.int x2), none], [], h) QQ) ∧
    (∀ (x2 : Int32) (x3 : Int32), lab = 1 → xs = [x2, x3] → ys = [] → zs = [] → ∀ h : UH, HW (mkw c0 c1 c2 c3 c4 c5 c6 c7 c8 c9 c10 c11 c12 c13) d h → ∀ QQ : UR → Prop, (∀ h' : UH, HW (mkw c0 c1 c2 c3 c4 c5 r.1 c7 c8 r.2 c10 c11 c12 c13) d h' → QQ (none, h')) → Ends (EX D) (u_at kl_108) (28, [some (.ref a0), none, some (.int x2), some (.int x3)], [], h) QQ) := by
  refine G_108.partial_correctness _ _ _ _ _ (motive := fun lab xs ys zs c9 r =>
    (∀ (x2 : Int32), lab = 0 → xs = [x2] → ys = [] → zs = [] → ∀ h : UH, HW (mkw c0 c1 c2 c3 c4 c5 c6 c7 c8 c9 c10 c11 c12 c13) d h → ∀ QQ : UR → Prop, (∀ h' : UH, HW (mkw c0 c1 c2 c3 c4 c5 r.1 c7 c8 r.2 c10 c11 c12 c13) d h' → QQ (none, h')) → Ends (EX D) (u_at kl_108) (15, [some (.ref a0), none, some (.int x2), none], [], h) QQ) ∧
    (∀ (x2 : Int32) (x3 : Int32), lab = 1 → xs = [x2, x3] → ys = [] → zs = [] → ∀ h : UH, HW (mkw c0 c1 c2 c3 c4 c5 c6 c7 c8 c9 c10 c11 c12 c13) d h → ∀ QQ : UR → Prop, (∀ h' : UH, HW (mkw c0 c1 c2 c3 c4 c5 r.1 c7 c8 r.2 c10 c11 c12 c13) d h' → QQ (none, h')) → Ends (EX D) (u_at kl_108) (28, [some (.ref a0), none, some (.int x2), some (.int x3)], [], h) QQ)) ?_
  intro G ih lab xs ys zs c9 r hF
  refine ⟨?_, ?_⟩
  · intro x2 e1 e2 e3 e4 h hW QQ hQ
    subst e1 e2 e3 e4
    refine en_segs [(15, .iload_n 2, []), (16, .aload_n 0, [])] (by decide +kernel) (y := (17, [some (.ref a0), none, some (.int x2), none], [.ref a0, .int x2], h)) rfl ?_
    have k4 : aK d (cR c9 0 a0) = (0, 6, 0) := wf_obj hW ha0 (by decide) rfl
    refine en_get (by decide +kernel : u_at kl_108 17 = some (.getfield 34, [9, 0])) hW ha0 (by decide) rfl ?_
    refine en_get (by decide +kernel : u_at kl_108 20 = some (.getfield 48, [6, 1])) hW k4 (by decide) rfl ?_
    refine en_ic_ge (by decide +kernel : u_at kl_108 23 = some (.if_icmp .ge 96, [119])) (fun b5 => ?_) (fun b5 => ?_)
    · replace hF := i_pos b5 hF
      obtain rfl := Option.some.inj hF
      exact en_ret (by decide +kernel : u_at kl_108 119 = some (.return_, [])) rfl (hQ _ hW)
    · replace hF := i_neg b5 hF
      refine en_segs [(26, .iconst 0, []), (27, .istore_n 3, [])] (by decide +kernel) (y := (28, [some (.ref a0), none, some (.int x2), some (.int 0)], [], h)) rfl ?_
      exact (ih _ _ _ _ _ _ hF).2 _ _ rfl rfl rfl rfl  _ hW _ hQ
  · intro x2 x3 e1 e2 e3 e4 h hW QQ hQ
    subst e1 e2 e3 e4
    refine en_segs [(28, .iload_n 3, []), (29, .aload_n 0, [])] (by decide +kernel) (y := (30, [some (.ref a0), none, some (.int x2), some (.int x3)], [.ref a0, .int x3], h)) rfl ?_
    have k6 : aK d (cR c9 0 a0) = (0, 6, 0) := wf_obj hW ha0 (by decide) rfl
    refine en_get (by decide +kernel : u_at kl_108 30 = some (.getfield 34, [9, 0])) hW ha0 (by decide) rfl ?_
    refine en_get (by decide +kernel : u_at kl_108 33 = some (.getfield 51, [6, 0])) hW k6 (by decide) rfl ?_
    refine en_ic_ge (by decide +kernel : u_at kl_108 36 = some (.if_icmp .ge 77, [113])) (fun b7 => ?_) (fun b7 => ?_)
    · replace hF := i_pos b7 hF
      refine en_segs [(113, .iinc 2 1, []), (116, .goto (-101), [15])] (by decide +kernel) (y := (15, [some (.ref a0), none, some (.int (x2 + 1)), some (.int x3)], [], h)) rfl ?_
      refine en_fg (fg_k (fg_k (fg_k (fg_d fg_0)))) ?_
      exact (ih _ _ _ _ _ _ hF).1 _ rfl rfl rfl rfl  _ hW _ hQ
    · replace hF := i_neg b7 hF
      refine en_segs [(39, .aload_n 0, [])] (by decide +kernel) (y := (40, [some (.ref a0), none, some (.int x2), some (.int x3)], [.ref a0], h)) rfl ?_
      refine en_get (by decide +kernel : u_at kl_108 40 = some (.getfield 34, [9, 0])) hW ha0 (by decide) rfl ?_
      refine en_segs [(43, .iload_n 2, []), (44, .iload_n 3, [])] (by decide +kernel) (y := (45, [some (.ref a0), none, some (.int x2), some (.int x3)], [.int x3, .int x2, .ref (cR c9 0 a0)], h)) rfl ?_
      obtain ⟨r8, hr8, hF⟩ := ob_some hF
      refine en_vi (r := []) (by decide +kernel : u_at kl_108 45 = some (.invokevirtual 54, [60, 2, 6])) hW k6 rfl rfl (Nat.le_of_ble_eq_true rfl) (e_60 (D := D) (by omega) hW k6 hr8) (fun h' q => ?_)
      subst q
      obtain ⟨t9, hX, hK⟩ := ob_some hF
      have j10 : ∀ h : UH, HW (mkw c0 c1 c2 c3 c4 c5 c6 c7 c8 t9 c10 c11 c12 c13) d h → Ends (EX D) (u_at kl_108) (107, [some (.ref a0), none, some (.int x2), some (.int x3)], [], h) QQ := by
        intro h hW
        have hF := hK
        refine en_segs [(107, .iinc 3 1, []), (110, .goto (-82), [28])] (by decide +kernel) (y := (28, [some (.ref a0), none, some (.int x2), some (.int (x3 + 1))], [], h)) rfl ?_
        exact (ih _ _ _ _ _ _ hF).2 _ _ rfl rfl rfl rfl  _ hW _ hQ
      have hF := hX
      refine en_if_eq (by decide +kernel : u_at kl_108 48 = some (.ifCond .eq 59, [107])) (fun b11 => ?_) (fun b11 => ?_)
      · replace hF := i_pos b11 hF
        obtain rfl := Option.some.inj hF
        exact j10 _ hW
      · replace hF := i_neg b11 hF
        refine en_segs [(51, .aload_n 0, [])] (by decide +kernel) (y := (52, [some (.ref a0), none, some (.int x2), some (.int x3)], [.ref a0], h)) rfl ?_
        refine en_get (by decide +kernel : u_at kl_108 52 = some (.getfield 9, [9, 2])) hW ha0 (by decide) rfl ?_
        refine en_segs [(55, .aload_n 0, [])] (by decide +kernel) (y := (56, [some (.ref a0), none, some (.int x2), some (.int x3)], [.ref a0, .ref (aP d 9 2 a0)], h)) rfl ?_
        refine en_get (by decide +kernel : u_at kl_108 56 = some (.getfield 44, [9, 1])) hW ha0 (by decide) rfl ?_
        refine en_segs [(59, .aload_n 0, [])] (by decide +kernel) (y := (60, [some (.ref a0), none, some (.int x2), some (.int x3)], [.ref a0, .int (cI c9 1 a0), .ref (aP d 9 2 a0)], h)) rfl ?_
        refine en_get (by decide +kernel : u_at kl_108 60 = some (.getfield 34, [9, 0])) hW ha0 (by decide) rfl ?_
        refine en_get (by decide +kernel : u_at kl_108 63 = some (.getfield 58, [6, 10])) hW k6 (by decide) rfl ?_
        refine en_segs [(66, .iload_n 2, [])] (by decide +kernel) (y := (67, [some (.ref a0), none, some (.int x2), some (.int x3)], [.int x2, .ref (aP d 6 10 (cR c9 0 a0)), .int (cI c9 1 a0), .ref (aP d 9 2 a0)], h)) rfl ?_
        obtain ⟨v12, hv12, hF⟩ := ob_some hF
        refine en_iald (by decide +kernel : u_at kl_108 67 = some (.iaload, [])) hW k6 rfl (by decide) hv12 ?_
        obtain ⟨c9_13, hc9_13, hF⟩ := ob_some hF
        refine en_iast (by decide +kernel : u_at kl_108 68 = some (.iastore, [])) hW ha0 rfl (by decide) hc9_13 (fun h hW => ?_)
        have hW : HW (mkw c0 c1 c2 c3 c4 c5 c6 c7 c8 c9_13 c10 c11 c12 c13) d h := hW
        refine en_segs [(69, .aload_n 0, [])] (by decide +kernel) (y := (70, [some (.ref a0), none, some (.int x2), some (.int x3)], [.ref a0], h)) rfl ?_
        refine en_get (by decide +kernel : u_at kl_108 70 = some (.getfield 15, [9, 3])) hW ha0 (by decide) rfl ?_
        refine en_segs [(73, .aload_n 0, [])] (by decide +kernel) (y := (74, [some (.ref a0), none, some (.int x2), some (.int x3)], [.ref a0, .ref (aP d 9 3 a0)], h)) rfl ?_
        refine en_get (by decide +kernel : u_at kl_108 74 = some (.getfield 44, [9, 1])) hW ha0 (by decide) rfl ?_
        refine en_segs [(77, .iload_n 3, [])] (by decide +kernel) (y := (78, [some (.ref a0), none, some (.int x2), some (.int x3)], [.int x3, .int (cI c9_13 1 a0), .ref (aP d 9 3 a0)], h)) rfl ?_
        obtain ⟨c9_14, hc9_14, hF⟩ := ob_some hF
        refine en_iast (by decide +kernel : u_at kl_108 78 = some (.iastore, [])) hW ha0 rfl (by decide) hc9_14 (fun h hW => ?_)
        have hW : HW (mkw c0 c1 c2 c3 c4 c5 c6 c7 c8 c9_14 c10 c11 c12 c13) d h := hW
        refine en_segs [(79, .aload_n 0, [])] (by decide +kernel) (y := (80, [some (.ref a0), none, some (.int x2), some (.int x3)], [.ref a0], h)) rfl ?_
        refine en_get (by decide +kernel : u_at kl_108 80 = some (.getfield 18, [9, 4])) hW ha0 (by decide) rfl ?_
        refine en_segs [(83, .aload_n 0, [])] (by decide +kernel) (y := (84, [some (.ref a0), none, some (.int x2), some (.int x3)], [.ref a0, .ref (aP d 9 4 a0)], h)) rfl ?_
        refine en_get (by decide +kernel : u_at kl_108 84 = some (.getfield 44, [9, 1])) hW ha0 (by decide) rfl ?_
        refine en_segs [(87, .aload_n 0, [])] (by decide +kernel) (y := (88, [some (.ref a0), none, some (.int x2), some (.int x3)], [.ref a0, .int (cI c9_14 1 a0), .ref (aP d 9 4 a0)], h)) rfl ?_
        have k15 : aK d (cR c9_14 0 a0) = (0, 6, 0) := wf_obj hW ha0 (by decide) rfl
        refine en_get (by decide +kernel : u_at kl_108 88 = some (.getfield 34, [9, 0])) hW ha0 (by decide) rfl ?_
        refine en_get (by decide +kernel : u_at kl_108 91 = some (.getfield 61, [6, 5])) hW k15 (by decide) rfl ?_
        refine en_segs [(94, .iload_n 2, [])] (by decide +kernel) (y := (95, [some (.ref a0), none, some (.int x2), some (.int x3)], [.int x2, .ref (aP d 6 5 (cR c9_14 0 a0)), .int (cI c9_14 1 a0), .ref (aP d 9 4 a0)], h)) rfl ?_
        obtain ⟨v16, hv16, hF⟩ := ob_some hF
        refine en_iald (by decide +kernel : u_at kl_108 95 = some (.iaload, [])) hW k15 rfl (by decide) hv16 ?_
        obtain ⟨c9_17, hc9_17, hF⟩ := ob_some hF
        refine en_iast (by decide +kernel : u_at kl_108 96 = some (.iastore, [])) hW ha0 rfl (by decide) hc9_17 (fun h hW => ?_)
        have hW : HW (mkw c0 c1 c2 c3 c4 c5 c6 c7 c8 c9_17 c10 c11 c12 c13) d h := hW
        refine en_segs [(97, .aload_n 0, []), (98, .dup, [])] (by decide +kernel) (y := (99, [some (.ref a0), none, some (.int x2), some (.int x3)], [.ref a0, .ref a0], h)) rfl ?_
        refine en_get (by decide +kernel : u_at kl_108 99 = some (.getfield 44, [9, 1])) hW ha0 (by decide) rfl ?_
        refine en_segs [(102, .iconst 1, []), (103, .iadd, [])] (by decide +kernel) (y := (104, [some (.ref a0), none, some (.int x2), some (.int x3)], [.int ((cI c9_17 1 a0) + 1), .ref a0], h)) rfl ?_
        obtain ⟨c9_18, hc9_18, hF⟩ := ob_some hF
        refine en_putI (by decide +kernel : u_at kl_108 104 = some (.putfield 44, [9, 1, 0])) hW ha0 rfl (by decide) rfl (fun h hW => ?_)
        have hW : HW (mkw c0 c1 c2 c3 c4 c5 c6 c7 c8 c9_18 c10 c11 c12 c13) d h := by rw [← Option.some.inj hc9_18]; exact hW
        obtain rfl := Option.some.inj hF
        exact j10 _ hW
def F_108 (c1 : Cl) (c6 : Cl) (c8 : Cl) (c9 : Cl) (a0 : Nat) (a1 : Nat) : Option (Cl × Cl) :=
  F_51 c1 c6 c8 (cR c9 0 a0) a1 >>= fun r2 =>
  some (sI c9 1 a0 0) >>= fun c9_3 =>
  G_108 c1 r2 c8 a0 a1 0 [0] [] [] c9_3
set_option maxRecDepth 100000 in
set_option maxHeartbeats 4000000 in
/-- HeadCounts$Watching.listGoings -/
theorem e_108 {D : Nat} {c0 c1 c2 c3 c4 c5 c6 c7 c8 c9 c10 c11 c12 c13 : Cl} {d : Ad} {h : UH} {a0 : Nat} {a1 : Nat} {r : (Cl × Cl)} (hD : 4 ≤ D) (hW : HW (mkw c0 c1 c2 c3 c4 c5 c6 c7 c8 c9 c10 c11 c12 c13) d h) (ha0 : aK d a0 = (0, 9, 0)) (ha1 : aK d a1 = (0, 8, 0)) (hF : F_108 c1 c6 c8 c9 a0 a1 = some r) : ∃ q, EX D 108 [.ref a0, .ref a1] h q ∧ q.1 = none ∧ HW (mkw c0 c1 c2 c3 c4 c5 r.1 c7 c8 r.2 c10 c11 c12 c13) d q.2 := by
  obtain ⟨D, rfl⟩ : ∃ E, D = E + 1 := ⟨D - 1, by omega⟩
  unfold F_108 at hF
  refine ex_in (kl := kl_108) (nL := 4) rfl (by decide +kernel) (Nat.le_of_ble_eq_true rfl) ?_
  obtain ⟨QQ, hQQ⟩ : ∃ QQ : UR → Prop, QQ = (fun q : UR => q.1 = none ∧ HW (mkw c0 c1 c2 c3 c4 c5 r.1 c7 c8 r.2 c10 c11 c12 c13) d q.2) := ⟨_, rfl⟩
  rw [← hQQ]
  have hQ : ∀ h' : UH, HW (mkw c0 c1 c2 c3 c4 c5 r.1 c7 c8 r.2 c10 c11 c12 c13) d h' → QQ (none, h') := fun h' p => by rw [hQQ]; exact ⟨rfl, p⟩
  clear hQQ
  show Ends (EX D) (u_at kl_108) (0, [some (.ref a0), some (.ref a1), none, none], [], h) QQ
  refine en_segs [(0, .aload_n 0, [])] (by decide +kernel) (y := (1, [some (.ref a0), some (.ref a1), none, none], [.ref a0], h)) rfl ?_
  have k1 : aK d (cR c9 0 a0) = (0, 6, 0) := wf_obj hW ha0 (by decide) rfl
  refine en_get (by decide +kernel : u_at kl_108 1 = some (.getfield 34, [9, 0])) hW ha0 (by decide) rfl ?_
  refine en_segs [(4, .aload_n 1, [])] (by decide +kernel) (y := (5, [some (.ref a0), some (.ref a1), none, none], [.ref a1, .ref (cR c9 0 a0)], h)) rfl ?_
  obtain ⟨r2, hr2, hF⟩ := ob_some hF
  refine en_vv (r := []) (by decide +kernel : u_at kl_108 5 = some (.invokevirtual 38, [51, 1, 6])) hW k1 rfl rfl (Nat.le_of_ble_eq_true rfl) (e_51 (D := D) (by omega) hW k1 ha1 hr2) (fun h hW => ?_)
  have hW : HW (mkw c0 c1 c2 c3 c4 c5 r2 c7 c8 c9 c10 c11 c12 c13) d h := hW
  refine en_segs [(8, .aload_n 0, []), (9, .iconst 0, [])] (by decide +kernel) (y := (10, [some (.ref a0), some (.ref a1), none, none], [.int 0, .ref a0], h)) rfl ?_
  obtain ⟨c9_3, hc9_3, hF⟩ := ob_some hF
  refine en_putI (by decide +kernel : u_at kl_108 10 = some (.putfield 44, [9, 1, 0])) hW ha0 rfl (by decide) rfl (fun h hW => ?_)
  have hW : HW (mkw c0 c1 c2 c3 c4 c5 r2 c7 c8 c9_3 c10 c11 c12 c13) d h := by rw [← Option.some.inj hc9_3]; exact hW
  refine en_segs [(13, .iconst 0, []), (14, .istore_n 2, [])] (by decide +kernel) (y := (15, [some (.ref a0), some (.ref a1), some (.int 0), none], [], h)) rfl ?_
  refine en_fg (fg_k (fg_d (fg_k (fg_k fg_0)))) ?_
  exact (g_108 (D := D) hD ha0 ha1 _ _ _ _ _ _ hF).1 _ rfl rfl rfl rfl  _ hW _ hQ
def F_110 (c9 : Cl) (a0 : Nat) (p1 : Int32) (p2 : Int32) (p3 : Int32) : Option Int32 :=
  ald (cA c9 4 a0) 36 p2 >>= fun v1 =>
  ald (cA c9 4 a0) 36 p3 >>= fun v2 =>
  ((if v1 = v2 then
  ald (cA c9 2 a0) 36 p2 >>= fun v7 =>
  ald (cA c9 2 a0) 36 p3 >>= fun v8 =>
  if (p1 &&& (1 <<< (v7 &&& 31))) = (p1 &&& (1 <<< (v8 &&& 31))) then
  ald (cA c9 3 a0) 36 p2 >>= fun v10 =>
  ald (cA c9 3 a0) 36 p3 >>= fun v11 =>
  if (p1 &&& (1 <<< (v10 &&& 31))) = (p1 &&& (1 <<< (v11 &&& 31))) then
  some 1
  else
  some 0
  else
  some 0
  else
  some 0) : Option (Int32)) >>= fun (t3 : Int32) =>
  zb t3 >>= fun z5 => some z5
set_option maxRecDepth 100000 in
set_option maxHeartbeats 4000000 in
/-- HeadCounts$Watching.isFeltAlike -/
theorem e_110 {D : Nat} {c0 c1 c2 c3 c4 c5 c6 c7 c8 c9 c10 c11 c12 c13 : Cl} {d : Ad} {h : UH} {a0 : Nat} {p1 : Int32} {p2 : Int32} {p3 : Int32} {r : Int32} (hD : 1 ≤ D) (hW : HW (mkw c0 c1 c2 c3 c4 c5 c6 c7 c8 c9 c10 c11 c12 c13) d h) (ha0 : aK d a0 = (0, 9, 0)) (hF : F_110 c9 a0 p1 p2 p3 = some r) : ∃ q, EX D 110 [.ref a0, .int p1, .int p2, .int p3] h q ∧ q.1 = some (.int r) ∧ h = q.2 := by
  obtain ⟨D, rfl⟩ : ∃ E, D = E + 1 := ⟨D - 1, by omega⟩
  unfold F_110 at hF
  refine ex_in (kl := kl_110) (nL := 4) rfl (by decide +kernel) (Nat.le_of_ble_eq_true rfl) ?_
  obtain ⟨QQ, hQQ⟩ : ∃ QQ : UR → Prop, QQ = (fun q : UR => q.1 = some (.int r) ∧ h = q.2) := ⟨_, rfl⟩
  rw [← hQQ]
  have hQ : QQ (some (.int r), h) := by rw [hQQ]; exact ⟨rfl, rfl⟩
  clear hQQ
  show Ends (EX D) (u_at kl_110) (0, [some (.ref a0), some (.int p1), some (.int p2), some (.int p3)], [], h) QQ
  refine en_segs [(0, .aload_n 0, [])] (by decide +kernel) (y := (1, [some (.ref a0), some (.int p1), some (.int p2), some (.int p3)], [.ref a0], h)) rfl ?_
  refine en_get (by decide +kernel : u_at kl_110 1 = some (.getfield 18, [9, 4])) hW ha0 (by decide) rfl ?_
  refine en_segs [(4, .iload_n 2, [])] (by decide +kernel) (y := (5, [some (.ref a0), some (.int p1), some (.int p2), some (.int p3)], [.int p2, .ref (aP d 9 4 a0)], h)) rfl ?_
  obtain ⟨v1, hv1, hF⟩ := ob_some hF
  refine en_iald (by decide +kernel : u_at kl_110 5 = some (.iaload, [])) hW ha0 rfl (by decide) hv1 ?_
  refine en_segs [(6, .aload_n 0, [])] (by decide +kernel) (y := (7, [some (.ref a0), some (.int p1), some (.int p2), some (.int p3)], [.ref a0, .int v1], h)) rfl ?_
  refine en_get (by decide +kernel : u_at kl_110 7 = some (.getfield 18, [9, 4])) hW ha0 (by decide) rfl ?_
  refine en_segs [(10, .iload_n 3, [])] (by decide +kernel) (y := (11, [some (.ref a0), some (.int p1), some (.int p2), some (.int p3)], [.int p3, .ref (aP d 9 4 a0), .int v1], h)) rfl ?_
  obtain ⟨v2, hv2, hF⟩ := ob_some hF
  refine en_iald (by decide +kernel : u_at kl_110 11 = some (.iaload, [])) hW ha0 rfl (by decide) hv2 ?_
  obtain ⟨t3, hX, hK⟩ := ob_some hF
  have j4 : Ends (EX D) (u_at kl_110) (66, [some (.ref a0), some (.int p1), some (.int p2), some (.int p3)], [.int t3], h) QQ := by
    have hF := hK
    obtain ⟨z5, hz5, hF⟩ := ob_some hF
    obtain rfl := Option.some.inj hF
    exact en_retZ (by decide +kernel : u_at kl_110 66 = some (.ireturn, [1])) hz5 (hQ)
  have hF := hX
  refine en_ic_ne (by decide +kernel : u_at kl_110 12 = some (.if_icmp .ne 53, [65])) (fun b6 => ?_) (fun b6 => ?_)
  · replace hF := i_pos b6 hF
    refine en_segs [(15, .iload_n 1, []), (16, .iconst 1, []), (17, .aload_n 0, [])] (by decide +kernel) (y := (18, [some (.ref a0), some (.int p1), some (.int p2), some (.int p3)], [.ref a0, .int 1, .int p1], h)) rfl ?_
    refine en_get (by decide +kernel : u_at kl_110 18 = some (.getfield 9, [9, 2])) hW ha0 (by decide) rfl ?_
    refine en_segs [(21, .iload_n 2, [])] (by decide +kernel) (y := (22, [some (.ref a0), some (.int p1), some (.int p2), some (.int p3)], [.int p2, .ref (aP d 9 2 a0), .int 1, .int p1], h)) rfl ?_
    obtain ⟨v7, hv7, hF⟩ := ob_some hF
    refine en_iald (by decide +kernel : u_at kl_110 22 = some (.iaload, [])) hW ha0 rfl (by decide) hv7 ?_
    refine en_segs [(23, .ishl, []), (24, .iand, []), (25, .iload_n 1, []), (26, .iconst 1, []), (27, .aload_n 0, [])] (by decide +kernel) (y := (28, [some (.ref a0), some (.int p1), some (.int p2), some (.int p3)], [.ref a0, .int 1, .int p1, .int (p1 &&& (1 <<< (v7 &&& 31)))], h)) rfl ?_
    refine en_get (by decide +kernel : u_at kl_110 28 = some (.getfield 9, [9, 2])) hW ha0 (by decide) rfl ?_
    refine en_segs [(31, .iload_n 3, [])] (by decide +kernel) (y := (32, [some (.ref a0), some (.int p1), some (.int p2), some (.int p3)], [.int p3, .ref (aP d 9 2 a0), .int 1, .int p1, .int (p1 &&& (1 <<< (v7 &&& 31)))], h)) rfl ?_
    obtain ⟨v8, hv8, hF⟩ := ob_some hF
    refine en_iald (by decide +kernel : u_at kl_110 32 = some (.iaload, [])) hW ha0 rfl (by decide) hv8 ?_
    refine en_segs [(33, .ishl, []), (34, .iand, [])] (by decide +kernel) (y := (35, [some (.ref a0), some (.int p1), some (.int p2), some (.int p3)], [.int (p1 &&& (1 <<< (v8 &&& 31))), .int (p1 &&& (1 <<< (v7 &&& 31)))], h)) rfl ?_
    refine en_ic_ne (by decide +kernel : u_at kl_110 35 = some (.if_icmp .ne 30, [65])) (fun b9 => ?_) (fun b9 => ?_)
    · replace hF := i_pos b9 hF
      refine en_segs [(38, .iload_n 1, []), (39, .iconst 1, []), (40, .aload_n 0, [])] (by decide +kernel) (y := (41, [some (.ref a0), some (.int p1), some (.int p2), some (.int p3)], [.ref a0, .int 1, .int p1], h)) rfl ?_
      refine en_get (by decide +kernel : u_at kl_110 41 = some (.getfield 15, [9, 3])) hW ha0 (by decide) rfl ?_
      refine en_segs [(44, .iload_n 2, [])] (by decide +kernel) (y := (45, [some (.ref a0), some (.int p1), some (.int p2), some (.int p3)], [.int p2, .ref (aP d 9 3 a0), .int 1, .int p1], h)) rfl ?_
      obtain ⟨v10, hv10, hF⟩ := ob_some hF
      refine en_iald (by decide +kernel : u_at kl_110 45 = some (.iaload, [])) hW ha0 rfl (by decide) hv10 ?_
      refine en_segs [(46, .ishl, []), (47, .iand, []), (48, .iload_n 1, []), (49, .iconst 1, []), (50, .aload_n 0, [])] (by decide +kernel) (y := (51, [some (.ref a0), some (.int p1), some (.int p2), some (.int p3)], [.ref a0, .int 1, .int p1, .int (p1 &&& (1 <<< (v10 &&& 31)))], h)) rfl ?_
      refine en_get (by decide +kernel : u_at kl_110 51 = some (.getfield 15, [9, 3])) hW ha0 (by decide) rfl ?_
      refine en_segs [(54, .iload_n 3, [])] (by decide +kernel) (y := (55, [some (.ref a0), some (.int p1), some (.int p2), some (.int p3)], [.int p3, .ref (aP d 9 3 a0), .int 1, .int p1, .int (p1 &&& (1 <<< (v10 &&& 31)))], h)) rfl ?_
      obtain ⟨v11, hv11, hF⟩ := ob_some hF
      refine en_iald (by decide +kernel : u_at kl_110 55 = some (.iaload, [])) hW ha0 rfl (by decide) hv11 ?_
      refine en_segs [(56, .ishl, []), (57, .iand, [])] (by decide +kernel) (y := (58, [some (.ref a0), some (.int p1), some (.int p2), some (.int p3)], [.int (p1 &&& (1 <<< (v11 &&& 31))), .int (p1 &&& (1 <<< (v10 &&& 31)))], h)) rfl ?_
      refine en_ic_ne (by decide +kernel : u_at kl_110 58 = some (.if_icmp .ne 7, [65])) (fun b12 => ?_) (fun b12 => ?_)
      · replace hF := i_pos b12 hF
        refine en_segs [(61, .iconst 1, []), (62, .goto 4, [66])] (by decide +kernel) (y := (66, [some (.ref a0), some (.int p1), some (.int p2), some (.int p3)], [.int 1], h)) rfl ?_
        obtain rfl := Option.some.inj hF
        exact j4
      · replace hF := i_neg b12 hF
        refine en_segs [(65, .iconst 0, [])] (by decide +kernel) (y := (66, [some (.ref a0), some (.int p1), some (.int p2), some (.int p3)], [.int 0], h)) rfl ?_
        obtain rfl := Option.some.inj hF
        exact j4
    · replace hF := i_neg b9 hF
      refine en_segs [(65, .iconst 0, [])] (by decide +kernel) (y := (66, [some (.ref a0), some (.int p1), some (.int p2), some (.int p3)], [.int 0], h)) rfl ?_
      obtain rfl := Option.some.inj hF
      exact j4
  · replace hF := i_neg b6 hF
    refine en_segs [(65, .iconst 0, [])] (by decide +kernel) (y := (66, [some (.ref a0), some (.int p1), some (.int p2), some (.int p3)], [.int 0], h)) rfl ?_
    obtain rfl := Option.some.inj hF
    exact j4
