theorem en_asn {call : Nat → List Value → UH → UR → Prop} {code : Nat → Option UI} {pc : Nat} {k : Fin 4} {L : List (Option Value)} {r : List Value} {h : UH} {res : UR → Prop} {v : Option Nat} (hc : code pc = some (.astore_n k, [])) (hk : (k : Nat) < L.length) (kk : Ends call code (pc + 1, u_st1 L k.val (va_rf v), r, h) res) : Ends call code (pc, L, va_rf v :: r, h) res := by
  cases v with
  | none => exact en_step hc (y := (pc + 1, u_st1 L k.val .null, r, h)) (show (if k.val < L.length then some (.inl (pc + 1, u_st1 L k.val .null, r, h)) else none : UO) = _ by rw [if_pos hk]) kk
  | some a => exact en_step hc (y := (pc + 1, u_st1 L k.val (.ref a), r, h)) (show (if k.val < L.length then some (.inl (pc + 1, u_st1 L k.val (.ref a), r, h)) else none : UO) = _ by rw [if_pos hk]) kk
theorem en_aln {call : Nat → List Value → UH → UR → Prop} {code : Nat → Option UI} {pc : Nat} {k : Fin 4} {L : List (Option Value)} {r : List Value} {h : UH} {res : UR → Prop} {v : Option Nat} (hc : code pc = some (.aload_n k, [])) (hl : u_ld L k.val = some (va_rf v)) (kk : Ends call code (pc + 1, L, va_rf v :: r, h) res) : Ends call code (pc, L, r, h) res := by
  cases v with
  | none => exact en_step hc (y := (pc + 1, L, .null :: r, h)) (show u_lod 2 k.val pc 1 L r h = _ by unfold u_lod; rw [hl]; rfl) kk
  | some a => exact en_step hc (y := (pc + 1, L, .ref a :: r, h)) (show u_lod 2 k.val pc 1 L r h = _ by unfold u_lod; rw [hl]; rfl) kk
def G_15 (c11 : Cl) (d : Ad) (a0 : Nat) (lab : Nat) (xs : List Int32) (ys : List Int64) (zs : List Nat) (c1 : Cl) (c2 : Cl) (c3 : Cl) : Option ((Option Nat) × Cl × Cl × Cl × Ad) := match lab, xs, ys, zs with
  | 0, [x3, x4], [], [z2] =>
    if 40 < x4 then
    G_15 c11 d a0 1 [] [] [z2] c1 c2 c3
    else
    if x3 = 0 then
    G_15 c11 d a0 1 [] [] [z2] c1 c2 c3
    else
    F_16 c1 c2 c3 a0 z2 x4 >>= fun r16 =>
    F_33 r16.2.2 (cR r16.2.1 0 a0) >>= fun r18 =>
    G_15 c11 d a0 0 [r18.1, x4 + 1] [] [z2] r16.1 r16.2.1 r18.2
  | 1, [], [], [z2] =>
    if (cI c3 7 (cR c2 0 a0)) = 0 then
    some (some z2, c1, c2, c3, d)
    else
    some (none, c1, c2, c3, d)
  | _, _, _, _ => none
partial_fixpoint
set_option maxRecDepth 100000 in
set_option maxHeartbeats 4000000 in
theorem g_15 {D : Nat} (hD : 7 ≤ D + 1) {c0 c4 c5 c6 c7 c8 c9 c10 c11 c12 c13 : Cl} {d : Ad} {a0 : Nat} (ha0 : aK d a0 = (0, 2, 0)) : ∀ (lab : Nat) (xs : List Int32) (ys : List Int64) (zs : List Nat) (c1 : Cl) (c2 : Cl) (c3 : Cl) (r : ((Option Nat) × Cl × Cl × Cl × Ad)), G_15 c11 d a0 lab xs ys zs c1 c2 c3 = some r →
    (∀ (x3 : Int32) (x4 : Int32) (z2 : Nat), lab = 0 → xs = [x3, x4] → ys = [] → zs = [z2] → aK d z2 = (0, 1, 0) → ∀ h : UH, HW (mkw c0 c1 c2 c3 c4 c5 c6 c7 c8 c9 c10 c11 c12 c13) d h → ∀ QQ : UR → Prop, (∀ h' : UH, RX d r.1 1 (mkw c0 r.2.1 r.2.2.1 r.2.2.2.1 c4 c5 c6 c7 c8 c9 c10 c11 c12 c13) r.2.2.2.2 h' → QQ (some (va_rf r.1), h')) → Ends (EX D) (u_at kl_15) (26, [some (.ref a0), none, some (.ref z2), some (.int x3), some (.int x4)], [], h) QQ) ∧
    (∀ (z2 : Nat), lab = 1 → xs = [] → ys = [] → zs = [z2] → aK d z2 = (0, 1, 0) → ∀ h : UH, HW (mkw c0 c1 c2 c3 c4 c5 c6 c7 c8 c9 c10 c11 c12 c13) d h → ∀ QQ : UR → Prop, (∀ h' : UH, RX d r.1 1 (mkw c0 r.2.1 r.2.2.1 r.2.2.2.1 c4 c5 c6 c7 c8 c9 c10 c11 c12 c13) r.2.2.2.2 h' → QQ (some (va_rf r.1), h')) → Ends (EX D) (u_at kl_15) (58, [some (.ref a0), none, some (.ref z2), none, none], [], h) QQ) := by
  refine G_15.partial_correctness _ _ _ (motive := fun lab xs ys zs c1 c2 c3 r =>
    (∀ (x3 : Int32) (x4 : Int32) (z2 : Nat), lab = 0 → xs = [x3, x4] → ys = [] → zs = [z2] → aK d z2 = (0, 1, 0) → ∀ h : UH, HW (mkw c0 c1 c2 c3 c4 c5 c6 c7 c8 c9 c10 c11 c12 c13) d h → ∀ QQ : UR → Prop, (∀ h' : UH, RX d r.1 1 (mkw c0 r.2.1 r.2.2.1 r.2.2.2.1 c4 c5 c6 c7 c8 c9 c10 c11 c12 c13) r.2.2.2.2 h' → QQ (some (va_rf r.1), h')) → Ends (EX D) (u_at kl_15) (26, [some (.ref a0), none, some (.ref z2), some (.int x3), some (.int x4)], [], h) QQ) ∧
    (∀ (z2 : Nat), lab = 1 → xs = [] → ys = [] → zs = [z2] → aK d z2 = (0, 1, 0) → ∀ h : UH, HW (mkw c0 c1 c2 c3 c4 c5 c6 c7 c8 c9 c10 c11 c12 c13) d h → ∀ QQ : UR → Prop, (∀ h' : UH, RX d r.1 1 (mkw c0 r.2.1 r.2.2.1 r.2.2.2.1 c4 c5 c6 c7 c8 c9 c10 c11 c12 c13) r.2.2.2.2 h' → QQ (some (va_rf r.1), h')) → Ends (EX D) (u_at kl_15) (58, [some (.ref a0), none, some (.ref z2), none, none], [], h) QQ)) ?_
  intro G ih lab xs ys zs c1 c2 c3 r hF
  refine ⟨?_, ?_⟩
  · intro x3 x4 z2 e1 e2 e3 e4 hz2 h hW QQ hQ
    subst e1 e2 e3 e4
    refine en_segs [(26, .iload 4, []), (28, .bipush 40, [])] (by decide +kernel) (y := (30, [some (.ref a0), none, some (.ref z2), some (.int x3), some (.int x4)], [.int 40, .int x4], h)) rfl ?_
    refine en_ic_gt (by decide +kernel : u_at kl_15 30 = some (.if_icmp .gt 28, [58])) (fun b14 => ?_) (fun b14 => ?_)
    · replace hF := i_pos b14 hF
      refine en_fg (fg_k (fg_k (fg_k (fg_d (fg_d fg_0))))) ?_
      exact (ih _ _ _ _ _ _ _ _ hF).2 _ rfl rfl rfl rfl hz2 _ hW _ hQ
    · replace hF := i_neg b14 hF
      refine en_segs [(33, .iload_n 3, [])] (by decide +kernel) (y := (34, [some (.ref a0), none, some (.ref z2), some (.int x3), some (.int x4)], [.int x3], h)) rfl ?_
      refine en_if_eq (by decide +kernel : u_at kl_15 34 = some (.ifCond .eq 24, [58])) (fun b15 => ?_) (fun b15 => ?_)
      · replace hF := i_pos b15 hF
        refine en_fg (fg_k (fg_k (fg_k (fg_d (fg_d fg_0))))) ?_
        exact (ih _ _ _ _ _ _ _ _ hF).2 _ rfl rfl rfl rfl hz2 _ hW _ hQ
      · replace hF := i_neg b15 hF
        refine en_segs [(37, .aload_n 0, []), (38, .aload_n 2, []), (39, .iload 4, [])] (by decide +kernel) (y := (41, [some (.ref a0), none, some (.ref z2), some (.int x3), some (.int x4)], [.int x4, .ref z2, .ref a0], h)) rfl ?_
        obtain ⟨r16, hr16, hF⟩ := ob_some hF
        refine en_vv (r := []) (by decide +kernel : u_at kl_15 41 = some (.invokevirtual 28, [16, 2, 2])) hW ha0 rfl rfl (Nat.le_of_ble_eq_true rfl) (e_16 (D := D) (by omega) hW ha0 hz2 hr16) (fun h hW => ?_)
        have hW : HW (mkw c0 r16.1 r16.2.1 r16.2.2 c4 c5 c6 c7 c8 c9 c10 c11 c12 c13) d h := hW
        refine en_segs [(44, .aload_n 0, [])] (by decide +kernel) (y := (45, [some (.ref a0), none, some (.ref z2), some (.int x3), some (.int x4)], [.ref a0], h)) rfl ?_
        have k17 : aK d (cR r16.2.1 0 a0) = (0, 3, 0) := wf_obj hW ha0 (by decide) rfl
        refine en_get (by decide +kernel : u_at kl_15 45 = some (.getfield 9, [2, 0])) hW ha0 (by decide) rfl ?_
        obtain ⟨r18, hr18, hF⟩ := ob_some hF
        refine en_vi (r := []) (by decide +kernel : u_at kl_15 48 = some (.invokevirtual 32, [33, 0, 3])) hW k17 rfl rfl (Nat.le_of_ble_eq_true rfl) (e_33 (D := D) (by omega) hW k17 hr18) (fun h hW => ?_)
        have hW : HW (mkw c0 r16.1 r16.2.1 r18.2 c4 c5 c6 c7 c8 c9 c10 c11 c12 c13) d h := hW
        refine en_segs [(51, .istore_n 3, []), (52, .iinc 4 1, []), (55, .goto (-29), [26])] (by decide +kernel) (y := (26, [some (.ref a0), none, some (.ref z2), some (.int r18.1), some (.int (x4 + 1))], [], h)) rfl ?_
        exact (ih _ _ _ _ _ _ _ _ hF).1 _ _ _ rfl rfl rfl rfl hz2 _ hW _ hQ
  · intro z2 e1 e2 e3 e4 hz2 h hW QQ hQ
    subst e1 e2 e3 e4
    refine en_segs [(58, .aload_n 0, [])] (by decide +kernel) (y := (59, [some (.ref a0), none, some (.ref z2), none, none], [.ref a0], h)) rfl ?_
    have k19 : aK d (cR c2 0 a0) = (0, 3, 0) := wf_obj hW ha0 (by decide) rfl
    refine en_get (by decide +kernel : u_at kl_15 59 = some (.getfield 9, [2, 0])) hW ha0 (by decide) rfl ?_
    refine en_get (by decide +kernel : u_at kl_15 62 = some (.getfield 36, [3, 7])) hW k19 (by decide) rfl ?_
    refine en_if_ne (by decide +kernel : u_at kl_15 65 = some (.ifCond .ne 7, [72])) (fun b20 => ?_) (fun b20 => ?_)
    · replace hF := i_pos b20 hF
      refine en_segs [(68, .aload_n 2, []), (69, .goto 4, [73])] (by decide +kernel) (y := (73, [some (.ref a0), none, some (.ref z2), none, none], [.ref z2], h)) rfl ?_
      obtain rfl := Option.some.inj hF
      exact en_ret (by decide +kernel : u_at kl_15 73 = some (.areturn, [])) rfl (hQ _ ⟨⟨hW, Adx.rf⟩, fun q e => by cases e; exact hz2⟩)
    · replace hF := i_neg b20 hF
      refine en_segs [(72, .aconst_null, [])] (by decide +kernel) (y := (73, [some (.ref a0), none, some (.ref z2), none, none], [.null], h)) rfl ?_
      obtain rfl := Option.some.inj hF
      exact en_ret (by decide +kernel : u_at kl_15 73 = some (.areturn, [])) rfl (hQ _ ⟨⟨hW, Adx.rf⟩, fun q e => nomatch e⟩)
def F_15 (c1 : Cl) (c2 : Cl) (c3 : Cl) (c11 : Cl) (d : Ad) (a0 : Nat) (p1 : Int32) : Option ((Option Nat) × Cl × Cl × Cl × Ad) :=
  F_9 c1 (adr d 1) (aX d) >>= fun r6 =>
  F_22 c3 c11 (cR c2 0 a0) p1 >>= fun r12 =>
  some (sI c2 1 a0 0) >>= fun c2_13 =>
  G_15 c11 r6.2 a0 0 [1, 0] [] [aX d] r6.1 c2_13 r12
set_option maxRecDepth 100000 in
set_option maxHeartbeats 4000000 in
/-- HeadCounts$HouseReader.read -/
theorem e_15 {D : Nat} {c0 c1 c2 c3 c4 c5 c6 c7 c8 c9 c10 c11 c12 c13 : Cl} {d : Ad} {h : UH} {a0 : Nat} {p1 : Int32} {r : ((Option Nat) × Cl × Cl × Cl × Ad)} (hD : 7 ≤ D) (hW : HW (mkw c0 c1 c2 c3 c4 c5 c6 c7 c8 c9 c10 c11 c12 c13) d h) (ha0 : aK d a0 = (0, 2, 0)) (hF : F_15 c1 c2 c3 c11 d a0 p1 = some r) : ∃ q, EX D 15 [.ref a0, .int p1] h q ∧ q.1 = some (va_rf r.1) ∧ RX d r.1 1 (mkw c0 r.2.1 r.2.2.1 r.2.2.2.1 c4 c5 c6 c7 c8 c9 c10 c11 c12 c13) r.2.2.2.2 q.2 := by
  obtain ⟨D, rfl⟩ : ∃ E, D = E + 1 := ⟨D - 1, by omega⟩
  unfold F_15 at hF
  refine ex_in (kl := kl_15) (nL := 5) rfl (by decide +kernel) (Nat.le_of_ble_eq_true rfl) ?_
  obtain ⟨QQ, hQQ⟩ : ∃ QQ : UR → Prop, QQ = (fun q : UR => q.1 = some (va_rf r.1) ∧ RX d r.1 1 (mkw c0 r.2.1 r.2.2.1 r.2.2.2.1 c4 c5 c6 c7 c8 c9 c10 c11 c12 c13) r.2.2.2.2 q.2) := ⟨_, rfl⟩
  rw [← hQQ]
  have hQ : ∀ h' : UH, RX d r.1 1 (mkw c0 r.2.1 r.2.2.1 r.2.2.2.1 c4 c5 c6 c7 c8 c9 c10 c11 c12 c13) r.2.2.2.2 h' → QQ (some (va_rf r.1), h') := fun h' p => by rw [hQQ]; exact ⟨rfl, p⟩
  clear hQQ
  show Ends (EX D) (u_at kl_15) (0, [some (.ref a0), some (.int p1), none, none, none], [], h) QQ
  have W3 := hW
  refine en_new (by decide +kernel : u_at kl_15 0 = some (.new 15, [1])) hW (fun h hW X1 k2 => ?_)
  have f4 := adr_F d 1
  have ha0 := X1.o ha0
  have A5 := X1
  refine en_segs [(3, .dup, [])] (by decide +kernel) (y := (4, [some (.ref a0), some (.int p1), none, none, none], [.ref (aX d), .ref (aX d)], h)) rfl ?_
  obtain ⟨r6, hr6, hF⟩ := ob_some hF
  refine en_iw (r := [.ref (aX d)]) (by decide +kernel : u_at kl_15 4 = some (.invokespecial 17, [9, 0, 1])) hW k2 rfl rfl (Nat.le_of_ble_eq_true rfl) (w_9 (D := D) (by omega) hW k2 f4 hr6) (fun h q7 => ?_)
  obtain ⟨hW, W8, k9⟩ := q7
  have ha0 := W8.o k2 ha0
  have A10 := Adw.adx W3 X1 W8
  have hW : HW (mkw c0 r6.1 c2 c3 c4 c5 c6 c7 c8 c9 c10 c11 c12 c13) r6.2 h := hW
  refine en_segs [(7, .astore_n 2, []), (8, .aload_n 0, [])] (by decide +kernel) (y := (9, [some (.ref a0), some (.int p1), some (.ref (aX d)), none, none], [.ref a0], h)) rfl ?_
  have k11 : aK r6.2 (cR c2 0 a0) = (0, 3, 0) := wf_obj hW ha0 (by decide) rfl
  refine en_get (by decide +kernel : u_at kl_15 9 = some (.getfield 9, [2, 0])) hW ha0 (by decide) rfl ?_
  refine en_segs [(12, .iload_n 1, [])] (by decide +kernel) (y := (13, [some (.ref a0), some (.int p1), some (.ref (aX d)), none, none], [.int p1, .ref (cR c2 0 a0)], h)) rfl ?_
  obtain ⟨r12, hr12, hF⟩ := ob_some hF
  refine en_vv (r := []) (by decide +kernel : u_at kl_15 13 = some (.invokevirtual 18, [22, 1, 3])) hW k11 rfl rfl (Nat.le_of_ble_eq_true rfl) (e_22 (D := D) (by omega) hW k11 hr12) (fun h hW => ?_)
  have hW : HW (mkw c0 r6.1 c2 r12 c4 c5 c6 c7 c8 c9 c10 c11 c12 c13) r6.2 h := hW
  refine en_segs [(16, .aload_n 0, []), (17, .iconst 0, [])] (by decide +kernel) (y := (18, [some (.ref a0), some (.int p1), some (.ref (aX d)), none, none], [.int 0, .ref a0], h)) rfl ?_
  obtain ⟨c2_13, hc2_13, hF⟩ := ob_some hF
  refine en_putI (by decide +kernel : u_at kl_15 18 = some (.putfield 24, [2, 1, 2])) hW ha0 rfl (by decide) rfl (fun h hW => ?_)
  have hW : HW (mkw c0 r6.1 c2_13 r12 c4 c5 c6 c7 c8 c9 c10 c11 c12 c13) r6.2 h := by rw [← Option.some.inj hc2_13]; exact hW
  refine en_segs [(21, .iconst 1, []), (22, .istore_n 3, []), (23, .iconst 0, []), (24, .istore 4, [])] (by decide +kernel) (y := (26, [some (.ref a0), some (.int p1), some (.ref (aX d)), some (.int 1), some (.int 0)], [], h)) rfl ?_
  refine en_fg (fg_k (fg_d (fg_k (fg_k (fg_k fg_0))))) ?_
  exact (g_15 (D := D) hD ha0 _ _ _ _ _ _ _ _ hF).1 _ _ _ rfl rfl rfl rfl k9 _ hW _ (fun h' p => hQ h' ⟨⟨p.1.1, A10.trans p.1.2⟩, p.2⟩)
def G_41 (c4 : Cl) (c11 : Cl) (c13 : Cl) (d : Ad) (a0 : Nat) (lab : Nat) (xs : List Int32) (ys : List Int64) (zs : List Nat) (c3 : Cl) (c5 : Cl) : Option ((Option Nat) × Cl × Cl × Cl × Cl × Ad) := match lab, xs, ys, zs with
  | 0, [x2, x3], [], [] =>
    if 12 < x2 then
    G_41 c4 c11 c13 d a0 1 [x2] [] [] c3 c5
    else
    if x3 = 0 then
    G_41 c4 c11 c13 d a0 1 [x2] [] [] c3 c5
    else
    F_42 c3 c5 a0 x2 >>= fun r7 =>
    F_33 r7.1 (cR r7.2 0 a0) >>= fun r9 =>
    G_41 c4 c11 c13 d a0 0 [x2 + 1, r9.1] [] [] r9.2 r7.2
  | 1, [x2], [], [] =>
    if (cI c3 7 (cR c5 0 a0)) = 0 then
    if x2 ≤ 12 then
    nwC c13 (adr d 4) 400 (cA c5 1 a0) (cI c5 2 a0) >>= fun n18 =>
    nwC n18.1 n18.2 12 (cA c5 4 a0) x2 >>= fun n26 =>
    nwC n26.1 n26.2 12 (cA c5 5 a0) x2 >>= fun n34 =>
    F_36 c4 n34.2 (aX d) (aX (adr d 4)) (aX n18.2) (aX n26.2) >>= fun r42 =>
    some (some (aX d), c3, r42.1, c5, n34.1, r42.2)
    else
    some (none, c3, c4, c5, c13, d)
    else
    some (none, c3, c4, c5, c13, d)
  | _, _, _, _ => none
partial_fixpoint
set_option maxRecDepth 100000 in
set_option maxHeartbeats 4000000 in
theorem g_41 {D : Nat} (hD : 46 ≤ D + 1) {c0 c1 c2 c4 c6 c7 c8 c9 c10 c11 c12 c13 : Cl} {d : Ad} {a0 : Nat} (ha0 : aK d a0 = (0, 5, 0)) : ∀ (lab : Nat) (xs : List Int32) (ys : List Int64) (zs : List Nat) (c3 : Cl) (c5 : Cl) (r : ((Option Nat) × Cl × Cl × Cl × Cl × Ad)), G_41 c4 c11 c13 d a0 lab xs ys zs c3 c5 = some r →
    (∀ (x2 : Int32) (x3 : Int32), lab = 0 → xs = [x2, x3] → ys = [] → zs = [] → ∀ h : UH, HW (mkw c0 c1 c2 c3 c4 c5 c6 c7 c8 c9 c10 c11 c12 c13) d h → ∀ QQ : UR → Prop, (∀ h' : UH, RX d r.1 4 (mkw c0 c1 c2 r.2.1 r.2.2.1 r.2.2.2.1 c6 c7 c8 c9 c10 c11 c12 r.2.2.2.2.1) r.2.2.2.2.2 h' → QQ (some (va_rf r.1), h')) → Ends (EX D) (u_at kl_41) (22, [some (.ref a0), none, some (.int x2), some (.int x3)], [], h) QQ) ∧
    (∀ (x2 : Int32), lab = 1 → xs = [x2] → ys = [] → zs = [] → ∀ h : UH, HW (mkw c0 c1 c2 c3 c4 c5 c6 c7 c8 c9 c10 c11 c12 c13) d h → ∀ QQ : UR → Prop, (∀ h' : UH, RX d r.1 4 (mkw c0 c1 c2 r.2.1 r.2.2.1 r.2.2.2.1 c6 c7 c8 c9 c10 c11 c12 r.2.2.2.2.1) r.2.2.2.2.2 h' → QQ (some (va_rf r.1), h')) → Ends (EX D) (u_at kl_41) (51, [some (.ref a0), none, some (.int x2), none], [], h) QQ) := by
  refine G_41.partial_correctness _ _ _ _ _ (motive := fun lab xs ys zs c3 c5 r =>
    (∀ (x2 : Int32) (x3 : Int32), lab = 0 → xs = [x2, x3] → ys = [] → zs = [] → ∀ h : UH, HW (mkw c0 c1 c2 c3 c4 c5 c6 c7 c8 c9 c10 c11 c12 c13) d h → ∀ QQ : UR → Prop, (∀ h' : UH, RX d r.1 4 (mkw c0 c1 c2 r.2.1 r.2.2.1 r.2.2.2.1 c6 c7 c8 c9 c10 c11 c12 r.2.2.2.2.1) r.2.2.2.2.2 h' → QQ (some (va_rf r.1), h')) → Ends (EX D) (u_at kl_41) (22, [some (.ref a0), none, some (.int x2), some (.int x3)], [], h) QQ) ∧
    (∀ (x2 : Int32), lab = 1 → xs = [x2] → ys = [] → zs = [] → ∀ h : UH, HW (mkw c0 c1 c2 c3 c4 c5 c6 c7 c8 c9 c10 c11 c12 c13) d h → ∀ QQ : UR → Prop, (∀ h' : UH, RX d r.1 4 (mkw c0 c1 c2 r.2.1 r.2.2.1 r.2.2.2.1 c6 c7 c8 c9 c10 c11 c12 r.2.2.2.2.1) r.2.2.2.2.2 h' → QQ (some (va_rf r.1), h')) → Ends (EX D) (u_at kl_41) (51, [some (.ref a0), none, some (.int x2), none], [], h) QQ)) ?_
  intro G ih lab xs ys zs c3 c5 r hF
  refine ⟨?_, ?_⟩
  · intro x2 x3 e1 e2 e3 e4 h hW QQ hQ
    subst e1 e2 e3 e4
    refine en_segs [(22, .iload_n 2, []), (23, .bipush 12, [])] (by decide +kernel) (y := (25, [some (.ref a0), none, some (.int x2), some (.int x3)], [.int 12, .int x2], h)) rfl ?_
    refine en_ic_gt (by decide +kernel : u_at kl_41 25 = some (.if_icmp .gt 26, [51])) (fun b5 => ?_) (fun b5 => ?_)
    · replace hF := i_pos b5 hF
      refine en_fg (fg_k (fg_k (fg_k (fg_d fg_0)))) ?_
      exact (ih _ _ _ _ _ _ _ hF).2 _ rfl rfl rfl rfl  _ hW _ hQ
    · replace hF := i_neg b5 hF
      refine en_segs [(28, .iload_n 3, [])] (by decide +kernel) (y := (29, [some (.ref a0), none, some (.int x2), some (.int x3)], [.int x3], h)) rfl ?_
      refine en_if_eq (by decide +kernel : u_at kl_41 29 = some (.ifCond .eq 22, [51])) (fun b6 => ?_) (fun b6 => ?_)
      · replace hF := i_pos b6 hF
        refine en_fg (fg_k (fg_k (fg_k (fg_d fg_0)))) ?_
        exact (ih _ _ _ _ _ _ _ hF).2 _ rfl rfl rfl rfl  _ hW _ hQ
      · replace hF := i_neg b6 hF
        refine en_segs [(32, .aload_n 0, []), (33, .iload_n 2, [])] (by decide +kernel) (y := (34, [some (.ref a0), none, some (.int x2), some (.int x3)], [.int x2, .ref a0], h)) rfl ?_
        obtain ⟨r7, hr7, hF⟩ := ob_some hF
        refine en_vv (r := []) (by decide +kernel : u_at kl_41 34 = some (.invokevirtual 38, [42, 1, 5])) hW ha0 rfl rfl (Nat.le_of_ble_eq_true rfl) (e_42 (D := D) (by omega) hW ha0 hr7) (fun h hW => ?_)
        have hW : HW (mkw c0 c1 c2 r7.1 c4 r7.2 c6 c7 c8 c9 c10 c11 c12 c13) d h := hW
        refine en_segs [(37, .iinc 2 1, []), (40, .aload_n 0, [])] (by decide +kernel) (y := (41, [some (.ref a0), none, some (.int (x2 + 1)), some (.int x3)], [.ref a0], h)) rfl ?_
        have k8 : aK d (cR r7.2 0 a0) = (0, 3, 0) := wf_obj hW ha0 (by decide) rfl
        refine en_get (by decide +kernel : u_at kl_41 41 = some (.getfield 21, [5, 0])) hW ha0 (by decide) rfl ?_
        obtain ⟨r9, hr9, hF⟩ := ob_some hF
        refine en_vi (r := []) (by decide +kernel : u_at kl_41 44 = some (.invokevirtual 41, [33, 0, 3])) hW k8 rfl rfl (Nat.le_of_ble_eq_true rfl) (e_33 (D := D) (by omega) hW k8 hr9) (fun h hW => ?_)
        have hW : HW (mkw c0 c1 c2 r9.2 c4 r7.2 c6 c7 c8 c9 c10 c11 c12 c13) d h := hW
        refine en_segs [(47, .istore_n 3, []), (48, .goto (-26), [22])] (by decide +kernel) (y := (22, [some (.ref a0), none, some (.int (x2 + 1)), some (.int r9.1)], [], h)) rfl ?_
        exact (ih _ _ _ _ _ _ _ hF).1 _ _ rfl rfl rfl rfl  _ hW _ hQ
  · intro x2 e1 e2 e3 e4 h hW QQ hQ
    subst e1 e2 e3 e4
    refine en_segs [(51, .aload_n 0, [])] (by decide +kernel) (y := (52, [some (.ref a0), none, some (.int x2), none], [.ref a0], h)) rfl ?_
    have k10 : aK d (cR c5 0 a0) = (0, 3, 0) := wf_obj hW ha0 (by decide) rfl
    refine en_get (by decide +kernel : u_at kl_41 52 = some (.getfield 21, [5, 0])) hW ha0 (by decide) rfl ?_
    refine en_get (by decide +kernel : u_at kl_41 55 = some (.getfield 45, [3, 7])) hW k10 (by decide) rfl ?_
    refine en_if_ne (by decide +kernel : u_at kl_41 58 = some (.ifCond .ne 9, [67])) (fun b11 => ?_) (fun b11 => ?_)
    · replace hF := i_pos b11 hF
      refine en_segs [(61, .iload_n 2, []), (62, .bipush 12, [])] (by decide +kernel) (y := (64, [some (.ref a0), none, some (.int x2), none], [.int 12, .int x2], h)) rfl ?_
      refine en_ic_le (by decide +kernel : u_at kl_41 64 = some (.if_icmp .le 5, [69])) (fun b12 => ?_) (fun b12 => ?_)
      · replace hF := i_pos b12 hF
        have W15 := hW
        refine en_new (by decide +kernel : u_at kl_41 69 = some (.new 48, [4])) hW (fun h hW X13 k14 => ?_)
        have f16 := adr_F d 4
        have ha0 := X13.o ha0
        have k10 := X13.o k10
        have A17 := X13
        refine en_segs [(72, .dup, []), (73, .aload_n 0, [])] (by decide +kernel) (y := (74, [some (.ref a0), none, some (.int x2), none], [.ref a0, .ref (aX d), .ref (aX d)], h)) rfl ?_
        refine en_get (by decide +kernel : u_at kl_41 74 = some (.getfield 9, [5, 1])) hW ha0 (by decide) rfl ?_
        refine en_segs [(77, .aload_n 0, [])] (by decide +kernel) (y := (78, [some (.ref a0), none, some (.int x2), none], [.ref a0, .ref (aP (adr d 4) 5 1 a0), .ref (aX d), .ref (aX d)], h)) rfl ?_
        refine en_get (by decide +kernel : u_at kl_41 78 = some (.getfield 31, [5, 2])) hW ha0 (by decide) rfl ?_
        obtain ⟨n18, hn18, hF⟩ := ob_some hF
        refine en_cpy (D := D) (by omega) (by decide +kernel : u_at kl_41 81 = some (.invokestatic 50, [305, 2])) hW ha0 rfl (by decide) (by decide) (Nat.le_of_ble_eq_true rfl) hn18 (fun h hW X19 k20 => ?_)
        have ha0 := X19.o ha0
        have k10 := X19.o k10
        have A21 := A17.trans X19
        have A22 := A17.trans X19
        have B23 := X13.trans X19
        have f25 := (X19.w k14).2.trans f16
        have k24 := (X19.w k14).1
        have hW : HW (mkw c0 c1 c2 c3 c4 c5 c6 c7 c8 c9 c10 c11 c12 n18.1) n18.2 h := hW
        refine en_segs [(84, .aload_n 0, [])] (by decide +kernel) (y := (85, [some (.ref a0), none, some (.int x2), none], [.ref a0, .ref (aX (adr d 4)), .ref (aX d), .ref (aX d)], h)) rfl ?_
        refine en_get (by decide +kernel : u_at kl_41 85 = some (.getfield 15, [5, 4])) hW ha0 (by decide) rfl ?_
        refine en_segs [(88, .iload_n 2, [])] (by decide +kernel) (y := (89, [some (.ref a0), none, some (.int x2), none], [.int x2, .ref (aP n18.2 5 4 a0), .ref (aX (adr d 4)), .ref (aX d), .ref (aX d)], h)) rfl ?_
        obtain ⟨n26, hn26, hF⟩ := ob_some hF
        refine en_cpy (D := D) (by omega) (by decide +kernel : u_at kl_41 89 = some (.invokestatic 50, [305, 2])) hW ha0 rfl (by decide) (by decide) (Nat.le_of_ble_eq_true rfl) hn26 (fun h hW X27 k28 => ?_)
        have ha0 := X27.o ha0
        have k10 := X27.o k10
        have k20 := X27.f k20
        have A29 := A21.trans X27
        have A30 := A22.trans X27
        have B31 := B23.trans X27
        have f33 := (X27.w k24).2.trans f25
        have k32 := (X27.w k24).1
        have hW : HW (mkw c0 c1 c2 c3 c4 c5 c6 c7 c8 c9 c10 c11 c12 n26.1) n26.2 h := hW
        refine en_segs [(92, .aload_n 0, [])] (by decide +kernel) (y := (93, [some (.ref a0), none, some (.int x2), none], [.ref a0, .ref (aX n18.2), .ref (aX (adr d 4)), .ref (aX d), .ref (aX d)], h)) rfl ?_
        refine en_get (by decide +kernel : u_at kl_41 93 = some (.getfield 18, [5, 5])) hW ha0 (by decide) rfl ?_
        refine en_segs [(96, .iload_n 2, [])] (by decide +kernel) (y := (97, [some (.ref a0), none, some (.int x2), none], [.int x2, .ref (aP n26.2 5 5 a0), .ref (aX n18.2), .ref (aX (adr d 4)), .ref (aX d), .ref (aX d)], h)) rfl ?_
        obtain ⟨n34, hn34, hF⟩ := ob_some hF
        refine en_cpy (D := D) (by omega) (by decide +kernel : u_at kl_41 97 = some (.invokestatic 50, [305, 2])) hW ha0 rfl (by decide) (by decide) (Nat.le_of_ble_eq_true rfl) hn34 (fun h hW X35 k36 => ?_)
        have ha0 := X35.o ha0
        have k10 := X35.o k10
        have k20 := X35.f k20
        have k28 := X35.f k28
        have A37 := A29.trans X35
        have A38 := A30.trans X35
        have B39 := B31.trans X35
        have f41 := (X35.w k32).2.trans f33
        have k40 := (X35.w k32).1
        have hW : HW (mkw c0 c1 c2 c3 c4 c5 c6 c7 c8 c9 c10 c11 c12 n34.1) n34.2 h := hW
        obtain ⟨r42, hr42, hF⟩ := ob_some hF
        refine en_iw (r := [.ref (aX d)]) (by decide +kernel : u_at kl_41 100 = some (.invokespecial 56, [36, 3, 4])) hW k40 rfl rfl (Nat.le_of_ble_eq_true rfl) (w_36 (D := D) (by omega) hW k40 f41 k20 k28 k36 hr42) (fun h q43 => ?_)
        obtain ⟨hW, W44, k45⟩ := q43
        have ha0 := W44.o k40 ha0
        have k10 := W44.o k40 k10
        have k20 := W44.f k40 k20
        have k28 := W44.f k40 k28
        have k36 := W44.f k40 k36
        have A46 := Adw.adx W15 B39 W44
        have hW : HW (mkw c0 c1 c2 c3 r42.1 c5 c6 c7 c8 c9 c10 c11 c12 n34.1) r42.2 h := hW
        obtain rfl := Option.some.inj hF
        exact en_ret (by decide +kernel : u_at kl_41 103 = some (.areturn, [])) rfl (hQ _ ⟨⟨hW, A46⟩, fun q e => by cases e; exact k45⟩)
      · replace hF := i_neg b12 hF
        refine en_segs [(67, .aconst_null, [])] (by decide +kernel) (y := (68, [some (.ref a0), none, some (.int x2), none], [.null], h)) rfl ?_
        obtain rfl := Option.some.inj hF
        exact en_ret (by decide +kernel : u_at kl_41 68 = some (.areturn, [])) rfl (hQ _ ⟨⟨hW, Adx.rf⟩, fun q e => nomatch e⟩)
    · replace hF := i_neg b11 hF
      refine en_segs [(67, .aconst_null, [])] (by decide +kernel) (y := (68, [some (.ref a0), none, some (.int x2), none], [.null], h)) rfl ?_
      obtain rfl := Option.some.inj hF
      exact en_ret (by decide +kernel : u_at kl_41 68 = some (.areturn, [])) rfl (hQ _ ⟨⟨hW, Adx.rf⟩, fun q e => nomatch e⟩)
def F_41 (c3 : Cl) (c4 : Cl) (c5 : Cl) (c11 : Cl) (c13 : Cl) (d : Ad) (a0 : Nat) (p1 : Int32) : Option ((Option Nat) × Cl × Cl × Cl × Cl × Ad) :=
  F_22 c3 c11 (cR c5 0 a0) p1 >>= fun r2 =>
  some (sI c5 2 a0 0) >>= fun c5_3 =>
  some (sI c5_3 3 a0 0) >>= fun c5_4 =>
  G_41 c4 c11 c13 d a0 0 [0, 1] [] [] r2 c5_4
set_option maxRecDepth 100000 in
set_option maxHeartbeats 4000000 in
/-- HeadCounts$RuleReader.read -/
theorem e_41 {D : Nat} {c0 c1 c2 c3 c4 c5 c6 c7 c8 c9 c10 c11 c12 c13 : Cl} {d : Ad} {h : UH} {a0 : Nat} {p1 : Int32} {r : ((Option Nat) × Cl × Cl × Cl × Cl × Ad)} (hD : 46 ≤ D) (hW : HW (mkw c0 c1 c2 c3 c4 c5 c6 c7 c8 c9 c10 c11 c12 c13) d h) (ha0 : aK d a0 = (0, 5, 0)) (hF : F_41 c3 c4 c5 c11 c13 d a0 p1 = some r) : ∃ q, EX D 41 [.ref a0, .int p1] h q ∧ q.1 = some (va_rf r.1) ∧ RX d r.1 4 (mkw c0 c1 c2 r.2.1 r.2.2.1 r.2.2.2.1 c6 c7 c8 c9 c10 c11 c12 r.2.2.2.2.1) r.2.2.2.2.2 q.2 := by
  obtain ⟨D, rfl⟩ : ∃ E, D = E + 1 := ⟨D - 1, by omega⟩
  unfold F_41 at hF
  refine ex_in (kl := kl_41) (nL := 4) rfl (by decide +kernel) (Nat.le_of_ble_eq_true rfl) ?_
  obtain ⟨QQ, hQQ⟩ : ∃ QQ : UR → Prop, QQ = (fun q : UR => q.1 = some (va_rf r.1) ∧ RX d r.1 4 (mkw c0 c1 c2 r.2.1 r.2.2.1 r.2.2.2.1 c6 c7 c8 c9 c10 c11 c12 r.2.2.2.2.1) r.2.2.2.2.2 q.2) := ⟨_, rfl⟩
  rw [← hQQ]
  have hQ : ∀ h' : UH, RX d r.1 4 (mkw c0 c1 c2 r.2.1 r.2.2.1 r.2.2.2.1 c6 c7 c8 c9 c10 c11 c12 r.2.2.2.2.1) r.2.2.2.2.2 h' → QQ (some (va_rf r.1), h') := fun h' p => by rw [hQQ]; exact ⟨rfl, p⟩
  clear hQQ
  show Ends (EX D) (u_at kl_41) (0, [some (.ref a0), some (.int p1), none, none], [], h) QQ
  refine en_segs [(0, .aload_n 0, [])] (by decide +kernel) (y := (1, [some (.ref a0), some (.int p1), none, none], [.ref a0], h)) rfl ?_
  have k1 : aK d (cR c5 0 a0) = (0, 3, 0) := wf_obj hW ha0 (by decide) rfl
  refine en_get (by decide +kernel : u_at kl_41 1 = some (.getfield 21, [5, 0])) hW ha0 (by decide) rfl ?_
  refine en_segs [(4, .iload_n 1, [])] (by decide +kernel) (y := (5, [some (.ref a0), some (.int p1), none, none], [.int p1, .ref (cR c5 0 a0)], h)) rfl ?_
  obtain ⟨r2, hr2, hF⟩ := ob_some hF
  refine en_vv (r := []) (by decide +kernel : u_at kl_41 5 = some (.invokevirtual 25, [22, 1, 3])) hW k1 rfl rfl (Nat.le_of_ble_eq_true rfl) (e_22 (D := D) (by omega) hW k1 hr2) (fun h hW => ?_)
  have hW : HW (mkw c0 c1 c2 r2 c4 c5 c6 c7 c8 c9 c10 c11 c12 c13) d h := hW
  refine en_segs [(8, .aload_n 0, []), (9, .iconst 0, [])] (by decide +kernel) (y := (10, [some (.ref a0), some (.int p1), none, none], [.int 0, .ref a0], h)) rfl ?_
  obtain ⟨c5_3, hc5_3, hF⟩ := ob_some hF
  refine en_putI (by decide +kernel : u_at kl_41 10 = some (.putfield 31, [5, 2, 0])) hW ha0 rfl (by decide) rfl (fun h hW => ?_)
  have hW : HW (mkw c0 c1 c2 r2 c4 c5_3 c6 c7 c8 c9 c10 c11 c12 c13) d h := by rw [← Option.some.inj hc5_3]; exact hW
  refine en_segs [(13, .aload_n 0, []), (14, .iconst 0, [])] (by decide +kernel) (y := (15, [some (.ref a0), some (.int p1), none, none], [.int 0, .ref a0], h)) rfl ?_
  obtain ⟨c5_4, hc5_4, hF⟩ := ob_some hF
  refine en_putI (by decide +kernel : u_at kl_41 15 = some (.putfield 35, [5, 3, 0])) hW ha0 rfl (by decide) rfl (fun h hW => ?_)
  have hW : HW (mkw c0 c1 c2 r2 c4 c5_4 c6 c7 c8 c9 c10 c11 c12 c13) d h := by rw [← Option.some.inj hc5_4]; exact hW
  refine en_segs [(18, .iconst 0, []), (19, .istore_n 2, []), (20, .iconst 1, []), (21, .istore_n 3, [])] (by decide +kernel) (y := (22, [some (.ref a0), some (.int p1), some (.int 0), some (.int 1)], [], h)) rfl ?_
  refine en_fg (fg_k (fg_d (fg_k (fg_k fg_0)))) ?_
  exact (g_41 (D := D) hD ha0 _ _ _ _ _ _ _ hF).1 _ _ rfl rfl rfl rfl  _ hW _ hQ
def F_125 (c1 : Cl) (c2 : Cl) (c3 : Cl) (c7 : Cl) (c8 : Cl) (c10 : Cl) (c11 : Cl) (d : Ad) (a0 : Nat) : Option (Int32 × Cl × Cl × Cl × Cl × Cl × Cl × Cl × Ad) :=
  F_15 c1 c2 c3 c11 d (cR c11 3 a0) (cI c11 1 a0) >>= fun r2 =>
  some (sI c11 1 a0 0) >>= fun c11_6 =>
  if r2.1 = none then
  some ((-2) - (cI r2.2.2.2.1 7 (cR c11_6 2 a0)), r2.2.1, r2.2.2.1, r2.2.2.2.1, c7, c8, c10, c11_6, r2.2.2.2.2)
  else
  r2.1 >>= fun o10 =>
  F_117 r2.2.1 c8 c10 (cR c11_6 7 a0) o10 >>= fun r12 =>
  some (sI c7 1 (cR c11_6 12 a0) 0) >>= fun c7_14 =>
  some (cI r2.2.1 2 o10, r2.2.1, r2.2.2.1, r2.2.2.2.1, c7_14, r12.1, r12.2, c11_6, r2.2.2.2.2)
set_option maxRecDepth 100000 in
set_option maxHeartbeats 4000000 in
/-- HeadCounts.house -/
theorem e_125 {D : Nat} {c0 c1 c2 c3 c4 c5 c6 c7 c8 c9 c10 c11 c12 c13 : Cl} {d : Ad} {h : UH} {a0 : Nat} {r : (Int32 × Cl × Cl × Cl × Cl × Cl × Cl × Cl × Ad)} (hD : 8 ≤ D) (hW : HW (mkw c0 c1 c2 c3 c4 c5 c6 c7 c8 c9 c10 c11 c12 c13) d h) (ha0 : aK d a0 = (0, 11, 0)) (hF : F_125 c1 c2 c3 c7 c8 c10 c11 d a0 = some r) : ∃ q, EX D 125 [.ref a0] h q ∧ q.1 = some (.int r.1) ∧ HX d (mkw c0 r.2.1 r.2.2.1 r.2.2.2.1 c4 c5 c6 r.2.2.2.2.1 r.2.2.2.2.2.1 c9 r.2.2.2.2.2.2.1 r.2.2.2.2.2.2.2.1 c12 c13) r.2.2.2.2.2.2.2.2 q.2 := by
  obtain ⟨D, rfl⟩ : ∃ E, D = E + 1 := ⟨D - 1, by omega⟩
  unfold F_125 at hF
  refine ex_in (kl := kl_125) (nL := 2) rfl (by decide +kernel) (Nat.le_of_ble_eq_true rfl) ?_
  obtain ⟨QQ, hQQ⟩ : ∃ QQ : UR → Prop, QQ = (fun q : UR => q.1 = some (.int r.1) ∧ HX d (mkw c0 r.2.1 r.2.2.1 r.2.2.2.1 c4 c5 c6 r.2.2.2.2.1 r.2.2.2.2.2.1 c9 r.2.2.2.2.2.2.1 r.2.2.2.2.2.2.2.1 c12 c13) r.2.2.2.2.2.2.2.2 q.2) := ⟨_, rfl⟩
  rw [← hQQ]
  have hQ : ∀ h' : UH, HX d (mkw c0 r.2.1 r.2.2.1 r.2.2.2.1 c4 c5 c6 r.2.2.2.2.1 r.2.2.2.2.2.1 c9 r.2.2.2.2.2.2.1 r.2.2.2.2.2.2.2.1 c12 c13) r.2.2.2.2.2.2.2.2 h' → QQ (some (.int r.1), h') := fun h' p => by rw [hQQ]; exact ⟨rfl, p⟩
  clear hQQ
  show Ends (EX D) (u_at kl_125) (0, [some (.ref a0), none], [], h) QQ
  refine en_segs [(0, .aload_n 0, [])] (by decide +kernel) (y := (1, [some (.ref a0), none], [.ref a0], h)) rfl ?_
  have k1 : aK d (cR c11 3 a0) = (0, 2, 0) := wf_obj hW ha0 (by decide) rfl
  refine en_get (by decide +kernel : u_at kl_125 1 = some (.getfield 27, [11, 3])) hW ha0 (by decide) rfl ?_
  refine en_segs [(4, .aload_n 0, [])] (by decide +kernel) (y := (5, [some (.ref a0), none], [.ref a0, .ref (cR c11 3 a0)], h)) rfl ?_
  refine en_get (by decide +kernel : u_at kl_125 5 = some (.getfield 104, [11, 1])) hW ha0 (by decide) rfl ?_
  obtain ⟨r2, hr2, hF⟩ := ob_some hF
  refine en_vr (r := []) (by decide +kernel : u_at kl_125 8 = some (.invokevirtual 112, [15, 1, 2])) hW k1 rfl rfl (Nat.le_of_ble_eq_true rfl) (e_15 (D := D) (by omega) hW k1 hr2) (fun h q => ?_)
  obtain ⟨⟨hW, X3⟩, E4⟩ := q
  have ha0 := X3.o ha0
  have k1 := X3.o k1
  have A5 := X3
  have hW : HW (mkw c0 r2.2.1 r2.2.2.1 r2.2.2.2.1 c4 c5 c6 c7 c8 c9 c10 c11 c12 c13) r2.2.2.2.2 h := hW
  refine en_asn (by decide +kernel : u_at kl_125 11 = some (.astore_n 1, [])) (Nat.le_of_ble_eq_true rfl) ?_
  refine en_segs [(12, .aload_n 0, []), (13, .iconst 0, [])] (by decide +kernel) (y := (14, [some (.ref a0), some (va_rf r2.1)], [.int 0, .ref a0], h)) rfl ?_
  obtain ⟨c11_6, hc11_6, hF⟩ := ob_some hF
  refine en_putI (by decide +kernel : u_at kl_125 14 = some (.putfield 104, [11, 1, 0])) hW ha0 rfl (by decide) rfl (fun h hW => ?_)
  have hW : HW (mkw c0 r2.2.1 r2.2.2.1 r2.2.2.2.1 c4 c5 c6 c7 c8 c9 c10 c11_6 c12 c13) r2.2.2.2.2 h := by rw [← Option.some.inj hc11_6]; exact hW
  refine en_aln (v := r2.1) (by decide +kernel : u_at kl_125 17 = some (.aload_n 1, [])) rfl ?_
  refine en_nn (by decide +kernel : u_at kl_125 18 = some (.ifnonnull 14, [32])) (fun b7 => ?_) (fun b7 => ?_)
  · replace hF := i_pos b7 hF
    refine en_segs [(21, .bipush (-2), []), (23, .aload_n 0, [])] (by decide +kernel) (y := (24, [some (.ref a0), some (va_rf r2.1)], [.ref a0, .int (-2)], h)) rfl ?_
    have k8 : aK r2.2.2.2.2 (cR c11_6 2 a0) = (0, 3, 0) := wf_obj hW ha0 (by decide) rfl
    refine en_get (by decide +kernel : u_at kl_125 24 = some (.getfield 18, [11, 2])) hW ha0 (by decide) rfl ?_
    refine en_get (by decide +kernel : u_at kl_125 27 = some (.getfield 116, [3, 7])) hW k8 (by decide) rfl ?_
    refine en_segs [(30, .isub, [])] (by decide +kernel) (y := (31, [some (.ref a0), some (va_rf r2.1)], [.int ((-2) - (cI r2.2.2.2.1 7 (cR c11_6 2 a0)))], h)) rfl ?_
    obtain rfl := Option.some.inj hF
    exact en_ret (by decide +kernel : u_at kl_125 31 = some (.ireturn, [0])) rfl (hQ _ ⟨hW, A5⟩)
  · replace hF := i_neg b7 hF
    refine en_segs [(32, .aload_n 0, [])] (by decide +kernel) (y := (33, [some (.ref a0), some (va_rf r2.1)], [.ref a0], h)) rfl ?_
    have k9 : aK r2.2.2.2.2 (cR c11_6 7 a0) = (0, 10, 0) := wf_obj hW ha0 (by decide) rfl
    refine en_get (by decide +kernel : u_at kl_125 33 = some (.getfield 52, [11, 7])) hW ha0 (by decide) rfl ?_
    refine en_aln (v := r2.1) (by decide +kernel : u_at kl_125 36 = some (.aload_n 1, [])) rfl ?_
    obtain ⟨o10, ho10, hF⟩ := ob_some hF
    have k11 : aK r2.2.2.2.2 o10 = (0, 1, 0) := E4 o10 ho10
    rw [ho10]
    obtain ⟨r12, hr12, hF⟩ := ob_some hF
    refine en_vv (r := []) (by decide +kernel : u_at kl_125 37 = some (.invokevirtual 119, [117, 1, 10])) hW k9 rfl rfl (Nat.le_of_ble_eq_true rfl) (e_117 (D := D) (by omega) hW k9 k11 hr12) (fun h hW => ?_)
    have hW : HW (mkw c0 r2.2.1 r2.2.2.1 r2.2.2.2.1 c4 c5 c6 c7 r12.1 c9 r12.2 c11_6 c12 c13) r2.2.2.2.2 h := hW
    refine en_segs [(40, .aload_n 0, [])] (by decide +kernel) (y := (41, [some (.ref a0), some (.ref o10)], [.ref a0], h)) rfl ?_
    have k13 : aK r2.2.2.2.2 (cR c11_6 12 a0) = (0, 7, 0) := wf_obj hW ha0 (by decide) rfl
    refine en_get (by decide +kernel : u_at kl_125 41 = some (.getfield 86, [11, 12])) hW ha0 (by decide) rfl ?_
    refine en_segs [(44, .iconst 0, [])] (by decide +kernel) (y := (45, [some (.ref a0), some (.ref o10)], [.int 0, .ref (cR c11_6 12 a0)], h)) rfl ?_
    obtain ⟨c7_14, hc7_14, hF⟩ := ob_some hF
    refine en_putI (by decide +kernel : u_at kl_125 45 = some (.putfield 122, [7, 1, 2])) hW k13 rfl (by decide) rfl (fun h hW => ?_)
    have hW : HW (mkw c0 r2.2.1 r2.2.2.1 r2.2.2.2.1 c4 c5 c6 c7_14 r12.1 c9 r12.2 c11_6 c12 c13) r2.2.2.2.2 h := by rw [← Option.some.inj hc7_14]; exact hW
    refine en_segs [(48, .aload_n 1, [])] (by decide +kernel) (y := (49, [some (.ref a0), some (.ref o10)], [.ref o10], h)) rfl ?_
    refine en_get (by decide +kernel : u_at kl_125 49 = some (.getfield 126, [1, 2])) hW k11 (by decide) rfl ?_
    obtain rfl := Option.some.inj hF
    exact en_ret (by decide +kernel : u_at kl_125 52 = some (.ireturn, [0])) rfl (hQ _ ⟨hW, A5⟩)
def F_126 (c3 : Cl) (c4 : Cl) (c5 : Cl) (c11 : Cl) (c13 : Cl) (d : Ad) (a0 : Nat) : Option (Int32 × Cl × Cl × Cl × Cl × Cl × Ad) :=
  if (cI c11 6 a0) < 6 then
  F_41 c3 c4 c5 c11 c13 d (cR c11 4 a0) (cI c11 1 a0) >>= fun r3 =>
  some (sI c11 1 a0 0) >>= fun c11_7 =>
  if r3.1 = none then
  some ((-2) - (cI r3.2.1 7 (cR c11_7 2 a0)), r3.2.1, r3.2.2.1, r3.2.2.2.1, c11_7, r3.2.2.2.2.1, r3.2.2.2.2.2)
  else
  r3.1 >>= fun o10 =>
  asq c11_7 5 a0 6 (cI c11_7 6 a0) o10 >>= fun c11_12 =>
  some (sI c11_12 6 a0 ((cI c11_12 6 a0) + 1)) >>= fun c11_13 =>
  some ((cI c11_13 6 a0) - 1, r3.2.1, r3.2.2.1, r3.2.2.2.1, c11_13, r3.2.2.2.2.1, r3.2.2.2.2.2)
  else
  some ((-1), c3, c4, c5, c11, c13, d)
set_option maxRecDepth 100000 in
set_option maxHeartbeats 4000000 in
/-- HeadCounts.rule -/
theorem e_126 {D : Nat} {c0 c1 c2 c3 c4 c5 c6 c7 c8 c9 c10 c11 c12 c13 : Cl} {d : Ad} {h : UH} {a0 : Nat} {r : (Int32 × Cl × Cl × Cl × Cl × Cl × Ad)} (hD : 47 ≤ D) (hW : HW (mkw c0 c1 c2 c3 c4 c5 c6 c7 c8 c9 c10 c11 c12 c13) d h) (ha0 : aK d a0 = (0, 11, 0)) (hF : F_126 c3 c4 c5 c11 c13 d a0 = some r) : ∃ q, EX D 126 [.ref a0] h q ∧ q.1 = some (.int r.1) ∧ HX d (mkw c0 c1 c2 r.2.1 r.2.2.1 r.2.2.2.1 c6 c7 c8 c9 c10 r.2.2.2.2.1 c12 r.2.2.2.2.2.1) r.2.2.2.2.2.2 q.2 := by
  obtain ⟨D, rfl⟩ : ∃ E, D = E + 1 := ⟨D - 1, by omega⟩
  unfold F_126 at hF
  refine ex_in (kl := kl_126) (nL := 2) rfl (by decide +kernel) (Nat.le_of_ble_eq_true rfl) ?_
  obtain ⟨QQ, hQQ⟩ : ∃ QQ : UR → Prop, QQ = (fun q : UR => q.1 = some (.int r.1) ∧ HX d (mkw c0 c1 c2 r.2.1 r.2.2.1 r.2.2.2.1 c6 c7 c8 c9 c10 r.2.2.2.2.1 c12 r.2.2.2.2.2.1) r.2.2.2.2.2.2 q.2) := ⟨_, rfl⟩
  rw [← hQQ]
  have hQ : ∀ h' : UH, HX d (mkw c0 c1 c2 r.2.1 r.2.2.1 r.2.2.2.1 c6 c7 c8 c9 c10 r.2.2.2.2.1 c12 r.2.2.2.2.2.1) r.2.2.2.2.2.2 h' → QQ (some (.int r.1), h') := fun h' p => by rw [hQQ]; exact ⟨rfl, p⟩
  clear hQQ
  show Ends (EX D) (u_at kl_126) (0, [some (.ref a0), none], [], h) QQ
  refine en_segs [(0, .aload_n 0, [])] (by decide +kernel) (y := (1, [some (.ref a0), none], [.ref a0], h)) rfl ?_
  refine en_get (by decide +kernel : u_at kl_126 1 = some (.getfield 129, [11, 6])) hW ha0 (by decide) rfl ?_
  refine en_segs [(4, .bipush 6, [])] (by decide +kernel) (y := (6, [some (.ref a0), none], [.int 6, .int (cI c11 6 a0)], h)) rfl ?_
  refine en_ic_lt (by decide +kernel : u_at kl_126 6 = some (.if_icmp .lt 5, [11])) (fun b1 => ?_) (fun b1 => ?_)
  · replace hF := i_pos b1 hF
    refine en_segs [(11, .aload_n 0, [])] (by decide +kernel) (y := (12, [some (.ref a0), none], [.ref a0], h)) rfl ?_
    have k2 : aK d (cR c11 4 a0) = (0, 5, 0) := wf_obj hW ha0 (by decide) rfl
    refine en_get (by decide +kernel : u_at kl_126 12 = some (.getfield 34, [11, 4])) hW ha0 (by decide) rfl ?_
    refine en_segs [(15, .aload_n 0, [])] (by decide +kernel) (y := (16, [some (.ref a0), none], [.ref a0, .ref (cR c11 4 a0)], h)) rfl ?_
    refine en_get (by decide +kernel : u_at kl_126 16 = some (.getfield 104, [11, 1])) hW ha0 (by decide) rfl ?_
    obtain ⟨r3, hr3, hF⟩ := ob_some hF
    refine en_vr (r := []) (by decide +kernel : u_at kl_126 19 = some (.invokevirtual 132, [41, 1, 5])) hW k2 rfl rfl (Nat.le_of_ble_eq_true rfl) (e_41 (D := D) (by omega) hW k2 hr3) (fun h q => ?_)
    obtain ⟨⟨hW, X4⟩, E5⟩ := q
    have ha0 := X4.o ha0
    have k2 := X4.o k2
    have A6 := X4
    have hW : HW (mkw c0 c1 c2 r3.2.1 r3.2.2.1 r3.2.2.2.1 c6 c7 c8 c9 c10 c11 c12 r3.2.2.2.2.1) r3.2.2.2.2.2 h := hW
    refine en_asn (by decide +kernel : u_at kl_126 22 = some (.astore_n 1, [])) (Nat.le_of_ble_eq_true rfl) ?_
    refine en_segs [(23, .aload_n 0, []), (24, .iconst 0, [])] (by decide +kernel) (y := (25, [some (.ref a0), some (va_rf r3.1)], [.int 0, .ref a0], h)) rfl ?_
    obtain ⟨c11_7, hc11_7, hF⟩ := ob_some hF
    refine en_putI (by decide +kernel : u_at kl_126 25 = some (.putfield 104, [11, 1, 0])) hW ha0 rfl (by decide) rfl (fun h hW => ?_)
    have hW : HW (mkw c0 c1 c2 r3.2.1 r3.2.2.1 r3.2.2.2.1 c6 c7 c8 c9 c10 c11_7 c12 r3.2.2.2.2.1) r3.2.2.2.2.2 h := by rw [← Option.some.inj hc11_7]; exact hW
    refine en_aln (v := r3.1) (by decide +kernel : u_at kl_126 28 = some (.aload_n 1, [])) rfl ?_
    refine en_nn (by decide +kernel : u_at kl_126 29 = some (.ifnonnull 14, [43])) (fun b8 => ?_) (fun b8 => ?_)
    · replace hF := i_pos b8 hF
      refine en_segs [(32, .bipush (-2), []), (34, .aload_n 0, [])] (by decide +kernel) (y := (35, [some (.ref a0), some (va_rf r3.1)], [.ref a0, .int (-2)], h)) rfl ?_
      have k9 : aK r3.2.2.2.2.2 (cR c11_7 2 a0) = (0, 3, 0) := wf_obj hW ha0 (by decide) rfl
      refine en_get (by decide +kernel : u_at kl_126 35 = some (.getfield 18, [11, 2])) hW ha0 (by decide) rfl ?_
      refine en_get (by decide +kernel : u_at kl_126 38 = some (.getfield 116, [3, 7])) hW k9 (by decide) rfl ?_
      refine en_segs [(41, .isub, [])] (by decide +kernel) (y := (42, [some (.ref a0), some (va_rf r3.1)], [.int ((-2) - (cI r3.2.1 7 (cR c11_7 2 a0)))], h)) rfl ?_
      obtain rfl := Option.some.inj hF
      exact en_ret (by decide +kernel : u_at kl_126 42 = some (.ireturn, [0])) rfl (hQ _ ⟨hW, A6⟩)
    · replace hF := i_neg b8 hF
      refine en_segs [(43, .aload_n 0, [])] (by decide +kernel) (y := (44, [some (.ref a0), some (va_rf r3.1)], [.ref a0], h)) rfl ?_
      refine en_get (by decide +kernel : u_at kl_126 44 = some (.getfield 40, [11, 5])) hW ha0 (by decide) rfl ?_
      refine en_segs [(47, .aload_n 0, [])] (by decide +kernel) (y := (48, [some (.ref a0), some (va_rf r3.1)], [.ref a0, .ref (aP r3.2.2.2.2.2 11 5 a0)], h)) rfl ?_
      refine en_get (by decide +kernel : u_at kl_126 48 = some (.getfield 129, [11, 6])) hW ha0 (by decide) rfl ?_
      refine en_aln (v := r3.1) (by decide +kernel : u_at kl_126 51 = some (.aload_n 1, [])) rfl ?_
      obtain ⟨o10, ho10, hF⟩ := ob_some hF
      have k11 : aK r3.2.2.2.2.2 o10 = (0, 4, 0) := E5 o10 ho10
      rw [ho10]
      obtain ⟨c11_12, hc11_12, hF⟩ := ob_some hF
      refine en_aast (by decide +kernel : u_at kl_126 52 = some (.aastore, [])) hW ha0 rfl (by decide) (by decide) k11 hc11_12 (fun h hW => ?_)
      have hW : HW (mkw c0 c1 c2 r3.2.1 r3.2.2.1 r3.2.2.2.1 c6 c7 c8 c9 c10 c11_12 c12 r3.2.2.2.2.1) r3.2.2.2.2.2 h := hW
      refine en_segs [(53, .aload_n 0, []), (54, .dup, [])] (by decide +kernel) (y := (55, [some (.ref a0), some (.ref o10)], [.ref a0, .ref a0], h)) rfl ?_
      refine en_get (by decide +kernel : u_at kl_126 55 = some (.getfield 129, [11, 6])) hW ha0 (by decide) rfl ?_
      refine en_segs [(58, .iconst 1, []), (59, .iadd, [])] (by decide +kernel) (y := (60, [some (.ref a0), some (.ref o10)], [.int ((cI c11_12 6 a0) + 1), .ref a0], h)) rfl ?_
      obtain ⟨c11_13, hc11_13, hF⟩ := ob_some hF
      refine en_putI (by decide +kernel : u_at kl_126 60 = some (.putfield 129, [11, 6, 0])) hW ha0 rfl (by decide) rfl (fun h hW => ?_)
      have hW : HW (mkw c0 c1 c2 r3.2.1 r3.2.2.1 r3.2.2.2.1 c6 c7 c8 c9 c10 c11_13 c12 r3.2.2.2.2.1) r3.2.2.2.2.2 h := by rw [← Option.some.inj hc11_13]; exact hW
      refine en_segs [(63, .aload_n 0, [])] (by decide +kernel) (y := (64, [some (.ref a0), some (.ref o10)], [.ref a0], h)) rfl ?_
      refine en_get (by decide +kernel : u_at kl_126 64 = some (.getfield 129, [11, 6])) hW ha0 (by decide) rfl ?_
      refine en_segs [(67, .iconst 1, []), (68, .isub, [])] (by decide +kernel) (y := (69, [some (.ref a0), some (.ref o10)], [.int ((cI c11_13 6 a0) - 1)], h)) rfl ?_
      obtain rfl := Option.some.inj hF
      exact en_ret (by decide +kernel : u_at kl_126 69 = some (.ireturn, [0])) rfl (hQ _ ⟨hW, A6⟩)
  · replace hF := i_neg b1 hF
    refine en_segs [(9, .iconst (-1), [])] (by decide +kernel) (y := (10, [some (.ref a0), none], [.int (-1)], h)) rfl ?_
    obtain rfl := Option.some.inj hF
    exact en_ret (by decide +kernel : u_at kl_126 10 = some (.ireturn, [0])) rfl (hQ _ ⟨hW, Adx.rf⟩)
def G_154 (c8 : Cl) (c10 : Cl) (c11 : Cl) (d : Ad) (a0 : Nat) (lab : Nat) (xs : List Int32) (ys : List Int64) (zs : List Nat) : Option (Int32 × Cl × Cl × Cl × Ad) := match lab, xs, ys, zs with
  | 0, [x1], [], [] =>
    ldq (cQ c11 8 a0) 4 x1 >>= fun v19 =>
    v19 >>= fun o21 =>
    F_118 c8 c10 o21 (cR c11 7 a0) >>= fun r23 =>
    some (cI r23.1 1 (cR r23.2 0 (cR c11 7 a0)), r23.1, r23.2, c11, d)
  | _, _, _, _ => none
set_option maxRecDepth 100000 in
set_option maxHeartbeats 4000000 in
theorem g_154 {D : Nat} (hD : 3 ≤ D + 1) {c0 c1 c2 c3 c4 c5 c6 c7 c8 c9 c10 c11 c12 c13 : Cl} {d : Ad} {a0 : Nat} (ha0 : aK d a0 = (0, 11, 0)) : ∀ (lab : Nat) (xs : List Int32) (ys : List Int64) (zs : List Nat) (r : (Int32 × Cl × Cl × Cl × Ad)), G_154 c8 c10 c11 d a0 lab xs ys zs = some r →
    (∀ (x1 : Int32), lab = 0 → xs = [x1] → ys = [] → zs = [] → ∀ h : UH, HW (mkw c0 c1 c2 c3 c4 c5 c6 c7 c8 c9 c10 c11 c12 c13) d h → ∀ QQ : UR → Prop, (∀ h' : UH, HX d (mkw c0 c1 c2 c3 c4 c5 c6 c7 r.2.1 c9 r.2.2.1 r.2.2.2.1 c12 c13) r.2.2.2.2 h' → QQ (some (.int r.1), h')) → Ends (EX D) (u_at kl_154) (43, [some (.ref a0), some (.int x1)], [], h) QQ) := by
  intro lab xs ys zs r hF
  unfold G_154 at hF
  · intro x1 e1 e2 e3 e4 h hW QQ hQ
    subst e1 e2 e3 e4
    refine en_segs [(43, .aload_n 0, [])] (by decide +kernel) (y := (44, [some (.ref a0), some (.int x1)], [.ref a0], h)) rfl ?_
    refine en_get (by decide +kernel : u_at kl_154 44 = some (.getfield 56, [11, 8])) hW ha0 (by decide) rfl ?_
    refine en_segs [(47, .iload_n 1, [])] (by decide +kernel) (y := (48, [some (.ref a0), some (.int x1)], [.int x1, .ref (aP d 11 8 a0)], h)) rfl ?_
    obtain ⟨v19, hv19, hF⟩ := ob_some hF
    have ev19 : ∀ q, v19 = some q → aK d q = (0, 10, 0) := fun q e => wf_elem (t := 6) hW ha0 (by decide) rfl (by decide) ((ldq_some hv19).2.trans e)
    refine en_aald (by decide +kernel : u_at kl_154 48 = some (.aaload, [])) hW ha0 rfl (by decide) (by decide) hv19 ?_
    refine en_segs [(49, .aload_n 0, [])] (by decide +kernel) (y := (50, [some (.ref a0), some (.int x1)], [.ref a0, va_rf v19], h)) rfl ?_
    have k20 : aK d (cR c11 7 a0) = (0, 10, 0) := wf_obj hW ha0 (by decide) rfl
    refine en_get (by decide +kernel : u_at kl_154 50 = some (.getfield 52, [11, 7])) hW ha0 (by decide) rfl ?_
    obtain ⟨o21, ho21, hF⟩ := ob_some hF
    have k22 : aK d o21 = (0, 10, 0) := ev19 o21 ho21
    rw [ho21]
    obtain ⟨r23, hr23, hF⟩ := ob_some hF
    refine en_vv (r := []) (by decide +kernel : u_at kl_154 53 = some (.invokevirtual 366, [118, 1, 10])) hW k22 rfl rfl (Nat.le_of_ble_eq_true rfl) (e_118 (D := D) (by omega) hW k22 k20 hr23) (fun h hW => ?_)
    have hW : HW (mkw c0 c1 c2 c3 c4 c5 c6 c7 r23.1 c9 r23.2 c11 c12 c13) d h := hW
    refine en_segs [(56, .aload_n 0, [])] (by decide +kernel) (y := (57, [some (.ref a0), some (.int x1)], [.ref a0], h)) rfl ?_
    refine en_get (by decide +kernel : u_at kl_154 57 = some (.getfield 52, [11, 7])) hW ha0 (by decide) rfl ?_
    have k24 : aK d (cR r23.2 0 (cR c11 7 a0)) = (0, 8, 0) := wf_obj hW k20 (by decide) rfl
    refine en_get (by decide +kernel : u_at kl_154 60 = some (.getfield 62, [10, 0])) hW k20 (by decide) rfl ?_
    refine en_get (by decide +kernel : u_at kl_154 63 = some (.getfield 204, [8, 1])) hW k24 (by decide) rfl ?_
    obtain rfl := Option.some.inj hF
    exact en_ret (by decide +kernel : u_at kl_154 66 = some (.ireturn, [0])) rfl (hQ _ ⟨hW, Adx.rf⟩)
def F_154 (c8 : Cl) (c10 : Cl) (c11 : Cl) (d : Ad) (a0 : Nat) (p1 : Int32) : Option (Int32 × Cl × Cl × Cl × Ad) :=
  if p1 < 0 then
  some ((-1), c8, c10, c11, d)
  else
  if p1 < 4 then
  ldq (cQ c11 8 a0) 4 p1 >>= fun v3 =>
  if v3 = none then
  F_116 c8 c10 (adr d 10) (aX d) (cR c8 0 (cR c10 0 (cR c11 7 a0))) >>= fun r13 =>
  asq c11 8 a0 4 p1 (aX d) >>= fun c11_18 =>
  G_154 r13.1 r13.2.1 c11_18 r13.2.2 a0 0 [p1] [] []
  else
  G_154 c8 c10 c11 d a0 0 [p1] [] []
  else
  some ((-1), c8, c10, c11, d)
set_option maxRecDepth 100000 in
set_option maxHeartbeats 4000000 in
/-- HeadCounts.image -/
theorem e_154 {D : Nat} {c0 c1 c2 c3 c4 c5 c6 c7 c8 c9 c10 c11 c12 c13 : Cl} {d : Ad} {h : UH} {a0 : Nat} {p1 : Int32} {r : (Int32 × Cl × Cl × Cl × Ad)} (hD : 3 ≤ D) (hW : HW (mkw c0 c1 c2 c3 c4 c5 c6 c7 c8 c9 c10 c11 c12 c13) d h) (ha0 : aK d a0 = (0, 11, 0)) (hF : F_154 c8 c10 c11 d a0 p1 = some r) : ∃ q, EX D 154 [.ref a0, .int p1] h q ∧ q.1 = some (.int r.1) ∧ HX d (mkw c0 c1 c2 c3 c4 c5 c6 c7 r.2.1 c9 r.2.2.1 r.2.2.2.1 c12 c13) r.2.2.2.2 q.2 := by
  obtain ⟨D, rfl⟩ : ∃ E, D = E + 1 := ⟨D - 1, by omega⟩
  unfold F_154 at hF
  refine ex_in (kl := kl_154) (nL := 2) rfl (by decide +kernel) (Nat.le_of_ble_eq_true rfl) ?_
  obtain ⟨QQ, hQQ⟩ : ∃ QQ : UR → Prop, QQ = (fun q : UR => q.1 = some (.int r.1) ∧ HX d (mkw c0 c1 c2 c3 c4 c5 c6 c7 r.2.1 c9 r.2.2.1 r.2.2.2.1 c12 c13) r.2.2.2.2 q.2) := ⟨_, rfl⟩
  rw [← hQQ]
  have hQ : ∀ h' : UH, HX d (mkw c0 c1 c2 c3 c4 c5 c6 c7 r.2.1 c9 r.2.2.1 r.2.2.2.1 c12 c13) r.2.2.2.2 h' → QQ (some (.int r.1), h') := fun h' p => by rw [hQQ]; exact ⟨rfl, p⟩
  clear hQQ
  show Ends (EX D) (u_at kl_154) (0, [some (.ref a0), some (.int p1)], [], h) QQ
  refine en_segs [(0, .iload_n 1, [])] (by decide +kernel) (y := (1, [some (.ref a0), some (.int p1)], [.int p1], h)) rfl ?_
  refine en_if_lt (by decide +kernel : u_at kl_154 1 = some (.ifCond .lt 8, [9])) (fun b1 => ?_) (fun b1 => ?_)
  · replace hF := i_pos b1 hF
    refine en_segs [(9, .iconst (-1), [])] (by decide +kernel) (y := (10, [some (.ref a0), some (.int p1)], [.int (-1)], h)) rfl ?_
    obtain rfl := Option.some.inj hF
    exact en_ret (by decide +kernel : u_at kl_154 10 = some (.ireturn, [0])) rfl (hQ _ ⟨hW, Adx.rf⟩)
  · replace hF := i_neg b1 hF
    refine en_segs [(4, .iload_n 1, []), (5, .iconst 4, [])] (by decide +kernel) (y := (6, [some (.ref a0), some (.int p1)], [.int 4, .int p1], h)) rfl ?_
    refine en_ic_lt (by decide +kernel : u_at kl_154 6 = some (.if_icmp .lt 5, [11])) (fun b2 => ?_) (fun b2 => ?_)
    · replace hF := i_pos b2 hF
      refine en_segs [(11, .aload_n 0, [])] (by decide +kernel) (y := (12, [some (.ref a0), some (.int p1)], [.ref a0], h)) rfl ?_
      refine en_get (by decide +kernel : u_at kl_154 12 = some (.getfield 56, [11, 8])) hW ha0 (by decide) rfl ?_
      refine en_segs [(15, .iload_n 1, [])] (by decide +kernel) (y := (16, [some (.ref a0), some (.int p1)], [.int p1, .ref (aP d 11 8 a0)], h)) rfl ?_
      obtain ⟨v3, hv3, hF⟩ := ob_some hF
      have ev3 : ∀ q, v3 = some q → aK d q = (0, 10, 0) := fun q e => wf_elem (t := 6) hW ha0 (by decide) rfl (by decide) ((ldq_some hv3).2.trans e)
      refine en_aald (by decide +kernel : u_at kl_154 16 = some (.aaload, [])) hW ha0 rfl (by decide) (by decide) hv3 ?_
      refine en_nn (by decide +kernel : u_at kl_154 17 = some (.ifnonnull 26, [43])) (fun b4 => ?_) (fun b4 => ?_)
      · replace hF := i_pos b4 hF
        refine en_segs [(20, .aload_n 0, [])] (by decide +kernel) (y := (21, [some (.ref a0), some (.int p1)], [.ref a0], h)) rfl ?_
        refine en_get (by decide +kernel : u_at kl_154 21 = some (.getfield 56, [11, 8])) hW ha0 (by decide) rfl ?_
        refine en_segs [(24, .iload_n 1, [])] (by decide +kernel) (y := (25, [some (.ref a0), some (.int p1)], [.int p1, .ref (aP d 11 8 a0)], h)) rfl ?_
        have W7 := hW
        refine en_new (by decide +kernel : u_at kl_154 25 = some (.new 44, [10])) hW (fun h hW X5 k6 => ?_)
        have f8 := adr_F d 10
        have ha0 := X5.o ha0
        have A9 := X5
        refine en_segs [(28, .dup, []), (29, .aload_n 0, [])] (by decide +kernel) (y := (30, [some (.ref a0), some (.int p1)], [.ref a0, .ref (aX d), .ref (aX d), .int p1, .ref (aP (adr d 10) 11 8 a0)], h)) rfl ?_
        have k10 : aK (adr d 10) (cR c11 7 a0) = (0, 10, 0) := wf_obj hW ha0 (by decide) rfl
        refine en_get (by decide +kernel : u_at kl_154 30 = some (.getfield 52, [11, 7])) hW ha0 (by decide) rfl ?_
        have k11 : aK (adr d 10) (cR c10 0 (cR c11 7 a0)) = (0, 8, 0) := wf_obj hW k10 (by decide) rfl
        refine en_get (by decide +kernel : u_at kl_154 33 = some (.getfield 62, [10, 0])) hW k10 (by decide) rfl ?_
        have k12 : aK (adr d 10) (cR c8 0 (cR c10 0 (cR c11 7 a0))) = (0, 1, 0) := wf_obj hW k11 (by decide) rfl
        refine en_get (by decide +kernel : u_at kl_154 36 = some (.getfield 66, [8, 0])) hW k11 (by decide) rfl ?_
        obtain ⟨r13, hr13, hF⟩ := ob_some hF
        refine en_iw (r := [.ref (aX d), .int p1, .ref (aP (adr d 10) 11 8 a0)]) (by decide +kernel : u_at kl_154 39 = some (.invokespecial 49, [116, 1, 10])) hW k6 rfl rfl (Nat.le_of_ble_eq_true rfl) (w_116 (D := D) (by omega) hW k6 f8 k12 hr13) (fun h q14 => ?_)
        obtain ⟨hW, W15, k16⟩ := q14
        rw [show aP (adr d 10) 11 8 a0 = aP r13.2.2 11 8 a0 from W15.p k6 ha0]
        have ha0 := W15.o k6 ha0
        have k10 := W15.o k6 k10
        have k11 := W15.o k6 k11
        have k12 := W15.o k6 k12
        have A17 := Adw.adx W7 X5 W15
        have hW : HW (mkw c0 c1 c2 c3 c4 c5 c6 c7 r13.1 c9 r13.2.1 c11 c12 c13) r13.2.2 h := hW
        obtain ⟨c11_18, hc11_18, hF⟩ := ob_some hF
        refine en_aast (by decide +kernel : u_at kl_154 42 = some (.aastore, [])) hW ha0 rfl (by decide) (by decide) k16 hc11_18 (fun h hW => ?_)
        have hW : HW (mkw c0 c1 c2 c3 c4 c5 c6 c7 r13.1 c9 r13.2.1 c11_18 c12 c13) r13.2.2 h := hW
        exact (g_154 (D := D) hD ha0 _ _ _ _ _ hF) _ rfl rfl rfl rfl  _ hW _ (fun h' p => hQ h' ⟨p.1, A17.trans p.2⟩)
      · replace hF := i_neg b4 hF
        exact (g_154 (D := D) hD ha0 _ _ _ _ _ hF) _ rfl rfl rfl rfl  _ hW _ hQ
    · replace hF := i_neg b2 hF
      refine en_segs [(9, .iconst (-1), [])] (by decide +kernel) (y := (10, [some (.ref a0), some (.int p1)], [.int (-1)], h)) rfl ?_
      obtain rfl := Option.some.inj hF
      exact en_ret (by decide +kernel : u_at kl_154 10 = some (.ireturn, [0])) rfl (hQ _ ⟨hW, Adx.rf⟩)
