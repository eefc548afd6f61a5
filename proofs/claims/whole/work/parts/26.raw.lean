/-! rows whose new index is a name of its own -/
section RowsO
variable {call : Nat → List Value → UH → UR → Prop} {code : Nat → Option UI} {pc : Nat} {L : List (Option Value)} {r st : List Value} {h : UH} {res : UR → Prop} {w w' : Wd} {d : Ad}
theorem en_nzO {n : Int32} {ty} {t N A B : Nat} (hc : code pc = some (.newarray ty, [t])) (hW : HW w d h) (hn : ¬ (n < 0 ∨ ¬ n.toNatClampNeg ≤ 1000000)) (hN : n.toNatClampNeg = N) (hz : u_zero t N = some (arrc zcl t N 0 0)) (hX : aX d = A) (hS : aS d = B) (kk : ∀ (h' : UH) (e : Ad), e = adz d t N → HW w e h' → Adx d e → aK e A = (4, t, 0) → aN e A = N → aX e = A + 1 → aS e = B + N → Ends call code (pc + 2, L, .ref A :: r, h') res) : Ends call code (pc, L, .int n :: r, h) res := by
  refine en_nz hc hW hn hN hz (fun h' g1 g2 g3 g4 => ?_)
  subst hX hS
  exact kk h' _ rfl g1 g2 g3 g4 rfl rfl
theorem en_nazO {n : Int32} {x t N A B : Nat} (hc : code pc = some (.anewarray x, [t])) (hW : HW w d h) (hn : ¬ (n < 0 ∨ ¬ n.toNatClampNeg ≤ 1000000)) (hN : n.toNatClampNeg = N) (hz : .inl (t, N, .inr (.inr (.inr (.inr u_none)))) = arrc zcl t N 0 0) (hX : aX d = A) (hS : aS d = B) (kk : ∀ (h' : UH) (e : Ad), e = adz d t N → HW w e h' → Adx d e → aK e A = (4, t, 0) → aN e A = N → aX e = A + 1 → aS e = B + N → Ends call code (pc + 3, L, .ref A :: r, h') res) : Ends call code (pc, L, .int n :: r, h) res := by
  refine en_naz hc hW hn hN hz (fun h' g1 g2 g3 g4 => ?_)
  subst hX hS
  exact kk h' _ rfl g1 g2 g3 g4 rfl rfl
theorem en_newO {x c A B N : Nat} (hc : code pc = some (.new x, [c])) (hW : HW w d h) (hX : aX d = A) (hS : aS d = B) (hN : (u_def c).length = N) (kk : ∀ (h' : UH) (e : Ad), e = adr d c → HW w e h' → Adx d e → aK e A = (3, c, 0) → aF e A = u_def c → aX e = A + 1 → aS e = B + N → Ends call code (pc + 3, L, .ref A :: r, h') res) : Ends call code (pc, L, r, h) res := by
  refine en_new hc hW (fun h' g1 g2 g3 => ?_)
  subst hX hS hN
  exact kk h' _ rfl g1 g2 g3 (adr_F d c) rfl rfl
theorem en_iwO {x mi n ci b k : Nat} {as : List Value} {e0 : Ad} (hc : code pc = some (.invokespecial x, [mi, n, ci])) (hW : HW w d h) (hk : aK d b = (3, ci, k)) (ha : u_arg (n + 1) st = (.ref b :: as, r)) (hn : as.length = n) (hr : r.length ≤ 4) (hq : ∃ q, call mi (.ref b :: as) h q ∧ q.1 = none ∧ WX b ci d w' e0 q.2) (kk : ∀ (h' : UH) (e : Ad), e = e0 → HW w' e h' → Adw b d e → aK e b = (0, ci, 0) → Ends call code (pc + 3, L, r, h') res) : Ends call code (pc, L, st, h) res :=
  en_iw hc hW hk ha hn hr hq (fun h' q => kk h' e0 rfl q.1 q.2.1 q.2.2)
end RowsO
set_option maxRecDepth 100000 in
set_option maxHeartbeats 4000000 in
theorem e_14 {D : Nat} {c0 c1 c2 c3 c4 c5 c6 c7 c8 c9 c10 c11 c12 c13 : Cl} {d : Ad} {h : UH} {a0 a1 : Nat} (hD : 1 ≤ D) (hW : HW (mkw c0 c1 c2 c3 c4 c5 c6 c7 c8 c9 c10 c11 c12 c13) d h) (ha0 : aK d a0 = (3, 2, 0)) (hf : aF d a0 = u_def 2) : ∃ q, EX D 14 [.ref a0, .ref a1] h q ∧ q.1 = none ∧ ∃ e, HW (mkw c0 c1 c2 c3 c4 c5 c6 c7 c8 c9 c10 c11 c12 c13) e q.2 ∧ Adw a0 d e ∧ aK e a0 = (3, 2, 0) ∧ aF e a0 = [.ref a1, .int 0] ∧ aX e = aX d + 0 ∧ aS e = aS d + 0 := by
  obtain ⟨D, rfl⟩ : ∃ E, D = E + 1 := ⟨D - 1, by omega⟩
  have hd0 := hW
  have W : Adw a0 d d := Adw.of Adx.rf
  refine ex_in (kl := kl_14) (nL := 2) rfl (by decide +kernel) (Nat.le_of_ble_eq_true rfl) ?_
  show Ends (EX D) (u_at kl_14) (0, [some (.ref a0), some (.ref a1)], [], h) _
  have hX : aX d = aX d + 0 := rfl
  have hf : aF d a0 = [.null, .int 0] := hf
  refine en_segs [(0, .aload_n 0, []), (1, .invokespecial 3, []), (4, .aload_n 0, []), (5, .aload_n 1, [])] (by decide +kernel) (y := (6, [some (.ref a0), some (.ref a1)], [.ref a1, .ref a0], h)) rfl ?_
  refine en_putA (fs' := [.ref a1, .int 0]) (by decide +kernel : u_at kl_14 6 = some (.putfield 9, [2, 0, 3])) hW ha0 hf (Nat.le_of_ble_eq_true rfl) rfl rfl hX (fun h e0 he0 hW kq nq hX hf ha0 y => ?_)
  have W := W.trans y
  have hS : aS e0 = aS d + 0 := by simp only [he0, os_f, os_z, Nat.add_zero]
  exact en_ret (by decide +kernel : u_at kl_14 9 = some (.return_, [])) rfl ⟨rfl, e0, hW, W, ha0, hf, hX, hS⟩
set_option maxRecDepth 100000 in
set_option maxHeartbeats 4000000 in
theorem e_21 {D : Nat} {c0 c1 c2 c3 c4 c5 c6 c7 c8 c9 c10 c11 c12 c13 : Cl} {d : Ad} {h : UH} {a0 a1 : Nat} (hD : 1 ≤ D) (hW : HW (mkw c0 c1 c2 c3 c4 c5 c6 c7 c8 c9 c10 c11 c12 c13) d h) (ha0 : aK d a0 = (3, 3, 0)) (hf : aF d a0 = u_def 3) : ∃ q, EX D 21 [.ref a0, .ref a1] h q ∧ q.1 = none ∧ ∃ e, HW (mkw c0 c1 c2 c3 c4 c5 c6 c7 c8 c9 c10 c11 c12 c13) e q.2 ∧ Adw a0 d e ∧ aK e a0 = (3, 3, 0) ∧ aF e a0 = [.ref a1, .int 0, .ref (aX d + 0), .ref (aX d + 1), .ref (aX d + 2), .int 0, .int 0, .int 0] ∧ aX e = aX d + 3 ∧ aS e = aS d + 1203 ∧ (aK e (aX d + 0) = (4, 1, 0) ∧ aN e (aX d + 0) = 401) ∧ (aK e (aX d + 1) = (4, 1, 0) ∧ aN e (aX d + 1) = 401) ∧ aK e (aX d + 2) = (4, 1, 0) ∧ aN e (aX d + 2) = 401 := by
  obtain ⟨D, rfl⟩ : ∃ E, D = E + 1 := ⟨D - 1, by omega⟩
  have hd0 := hW
  have W : Adw a0 d d := Adw.of Adx.rf
  refine ex_in (kl := kl_21) (nL := 2) rfl (by decide +kernel) (Nat.le_of_ble_eq_true rfl) ?_
  show Ends (EX D) (u_at kl_21) (0, [some (.ref a0), some (.ref a1)], [], h) _
  have hX : aX d = aX d + 0 := rfl
  have hf : aF d a0 = [.null, .int 0, .null, .null, .null, .int 0, .int 0, .int 0] := hf
  refine en_segs [(0, .aload_n 0, []), (1, .invokespecial 3, []), (4, .aload_n 0, []), (5, .sipush 401, [])] (by decide +kernel) (y := (8, [some (.ref a0), some (.ref a1)], [.int 401, .ref a0], h)) rfl ?_
  refine en_nzA (N := 401) (B := aX d) (j := 0) (by decide +kernel : u_at kl_21 8 = some (.newarray .int, [1])) hW (by decide +kernel) (by decide +kernel) rfl hX hf ha0 (fun h e0 he0 hW x k0 n0 hX hf ha0 => ?_)
  have W := W.trans (Adw.of x)
  refine en_putA (fs' := [.null, .int 0, .ref (aX d + 0), .null, .null, .int 0, .int 0, .int 0]) (by decide +kernel : u_at kl_21 10 = some (.putfield 9, [3, 2, 3])) hW ha0 hf (Nat.le_of_ble_eq_true rfl) rfl rfl hX (fun h e1 he1 hW kq nq hX hf ha0 y => ?_)
  have W := W.trans y
  have k0 := (kq _).trans k0
  have n0 := (congrFun nq _).trans n0
  refine en_segs [(13, .aload_n 0, []), (14, .sipush 401, [])] (by decide +kernel) (y := (17, [some (.ref a0), some (.ref a1)], [.int 401, .ref a0], h)) rfl ?_
  refine en_nzA (N := 401) (B := aX d) (j := 1) (by decide +kernel : u_at kl_21 17 = some (.newarray .int, [1])) hW (by decide +kernel) (by decide +kernel) rfl hX hf ha0 (fun h e2 he2 hW x k1 n1 hX hf ha0 => ?_)
  have n0 := (x.2.2.2.2.2.2.2 _ _ k0).trans n0
  have k0 := x.z k0
  have W := W.trans (Adw.of x)
  refine en_putA (fs' := [.null, .int 0, .ref (aX d + 0), .ref (aX d + 1), .null, .int 0, .int 0, .int 0]) (by decide +kernel : u_at kl_21 19 = some (.putfield 15, [3, 3, 3])) hW ha0 hf (Nat.le_of_ble_eq_true rfl) rfl rfl hX (fun h e3 he3 hW kq nq hX hf ha0 y => ?_)
  have W := W.trans y
  have k0 := (kq _).trans k0
  have n0 := (congrFun nq _).trans n0
  have k1 := (kq _).trans k1
  have n1 := (congrFun nq _).trans n1
  refine en_segs [(22, .aload_n 0, []), (23, .sipush 401, [])] (by decide +kernel) (y := (26, [some (.ref a0), some (.ref a1)], [.int 401, .ref a0], h)) rfl ?_
  refine en_nzA (N := 401) (B := aX d) (j := 2) (by decide +kernel : u_at kl_21 26 = some (.newarray .int, [1])) hW (by decide +kernel) (by decide +kernel) rfl hX hf ha0 (fun h e4 he4 hW x k2 n2 hX hf ha0 => ?_)
  have n0 := (x.2.2.2.2.2.2.2 _ _ k0).trans n0
  have k0 := x.z k0
  have n1 := (x.2.2.2.2.2.2.2 _ _ k1).trans n1
  have k1 := x.z k1
  have W := W.trans (Adw.of x)
  refine en_putA (fs' := [.null, .int 0, .ref (aX d + 0), .ref (aX d + 1), .ref (aX d + 2), .int 0, .int 0, .int 0]) (by decide +kernel : u_at kl_21 28 = some (.putfield 18, [3, 4, 3])) hW ha0 hf (Nat.le_of_ble_eq_true rfl) rfl rfl hX (fun h e5 he5 hW kq nq hX hf ha0 y => ?_)
  have W := W.trans y
  have k0 := (kq _).trans k0
  have n0 := (congrFun nq _).trans n0
  have k1 := (kq _).trans k1
  have n1 := (congrFun nq _).trans n1
  have k2 := (kq _).trans k2
  have n2 := (congrFun nq _).trans n2
  refine en_segs [(31, .aload_n 0, []), (32, .aload_n 1, [])] (by decide +kernel) (y := (33, [some (.ref a0), some (.ref a1)], [.ref a1, .ref a0], h)) rfl ?_
  refine en_putA (fs' := [.ref a1, .int 0, .ref (aX d + 0), .ref (aX d + 1), .ref (aX d + 2), .int 0, .int 0, .int 0]) (by decide +kernel : u_at kl_21 33 = some (.putfield 21, [3, 0, 3])) hW ha0 hf (Nat.le_of_ble_eq_true rfl) rfl rfl hX (fun h e6 he6 hW kq nq hX hf ha0 y => ?_)
  have W := W.trans y
  have k0 := (kq _).trans k0
  have n0 := (congrFun nq _).trans n0
  have k1 := (kq _).trans k1
  have n1 := (congrFun nq _).trans n1
  have k2 := (kq _).trans k2
  have n2 := (congrFun nq _).trans n2
  have hS : aS e6 = aS d + 1203 := by simp only [he0, he1, he2, he3, he4, he5, he6, os_f, os_z, Nat.add_zero]
  exact en_ret (by decide +kernel : u_at kl_21 36 = some (.return_, [])) rfl ⟨rfl, e6, hW, W, ha0, hf, hX, hS, ⟨k0, n0⟩, ⟨k1, n1⟩, ⟨k2, n2⟩⟩
set_option maxRecDepth 100000 in
set_option maxHeartbeats 4000000 in
theorem e_40 {D : Nat} {c0 c1 c2 c3 c4 c5 c6 c7 c8 c9 c10 c11 c12 c13 : Cl} {d : Ad} {h : UH} {a0 a1 : Nat} (hD : 1 ≤ D) (hW : HW (mkw c0 c1 c2 c3 c4 c5 c6 c7 c8 c9 c10 c11 c12 c13) d h) (ha0 : aK d a0 = (3, 5, 0)) (hf : aF d a0 = u_def 5) : ∃ q, EX D 40 [.ref a0, .ref a1] h q ∧ q.1 = none ∧ ∃ e, HW (mkw c0 c1 c2 c3 c4 c5 c6 c7 c8 c9 c10 c11 c12 c13) e q.2 ∧ Adw a0 d e ∧ aK e a0 = (3, 5, 0) ∧ aF e a0 = [.ref a1, .ref (aX d + 0), .int 0, .int 0, .ref (aX d + 1), .ref (aX d + 2)] ∧ aX e = aX d + 3 ∧ aS e = aS d + 424 ∧ (aK e (aX d + 0) = (4, 1, 0) ∧ aN e (aX d + 0) = 400) ∧ (aK e (aX d + 1) = (4, 1, 0) ∧ aN e (aX d + 1) = 12) ∧ aK e (aX d + 2) = (4, 1, 0) ∧ aN e (aX d + 2) = 12 := by
  obtain ⟨D, rfl⟩ : ∃ E, D = E + 1 := ⟨D - 1, by omega⟩
  have hd0 := hW
  have W : Adw a0 d d := Adw.of Adx.rf
  refine ex_in (kl := kl_40) (nL := 2) rfl (by decide +kernel) (Nat.le_of_ble_eq_true rfl) ?_
  show Ends (EX D) (u_at kl_40) (0, [some (.ref a0), some (.ref a1)], [], h) _
  have hX : aX d = aX d + 0 := rfl
  have hf : aF d a0 = [.null, .null, .int 0, .int 0, .null, .null] := hf
  refine en_segs [(0, .aload_n 0, []), (1, .invokespecial 3, []), (4, .aload_n 0, []), (5, .sipush 400, [])] (by decide +kernel) (y := (8, [some (.ref a0), some (.ref a1)], [.int 400, .ref a0], h)) rfl ?_
  refine en_nzA (N := 400) (B := aX d) (j := 0) (by decide +kernel : u_at kl_40 8 = some (.newarray .int, [1])) hW (by decide +kernel) (by decide +kernel) rfl hX hf ha0 (fun h e0 he0 hW x k0 n0 hX hf ha0 => ?_)
  have W := W.trans (Adw.of x)
  refine en_putA (fs' := [.null, .ref (aX d + 0), .int 0, .int 0, .null, .null]) (by decide +kernel : u_at kl_40 10 = some (.putfield 9, [5, 1, 3])) hW ha0 hf (Nat.le_of_ble_eq_true rfl) rfl rfl hX (fun h e1 he1 hW kq nq hX hf ha0 y => ?_)
  have W := W.trans y
  have k0 := (kq _).trans k0
  have n0 := (congrFun nq _).trans n0
  refine en_segs [(13, .aload_n 0, []), (14, .bipush 12, [])] (by decide +kernel) (y := (16, [some (.ref a0), some (.ref a1)], [.int 12, .ref a0], h)) rfl ?_
  refine en_nzA (N := 12) (B := aX d) (j := 1) (by decide +kernel : u_at kl_40 16 = some (.newarray .int, [1])) hW (by decide +kernel) (by decide +kernel) rfl hX hf ha0 (fun h e2 he2 hW x k1 n1 hX hf ha0 => ?_)
  have n0 := (x.2.2.2.2.2.2.2 _ _ k0).trans n0
  have k0 := x.z k0
  have W := W.trans (Adw.of x)
  refine en_putA (fs' := [.null, .ref (aX d + 0), .int 0, .int 0, .ref (aX d + 1), .null]) (by decide +kernel : u_at kl_40 18 = some (.putfield 15, [5, 4, 3])) hW ha0 hf (Nat.le_of_ble_eq_true rfl) rfl rfl hX (fun h e3 he3 hW kq nq hX hf ha0 y => ?_)
  have W := W.trans y
  have k0 := (kq _).trans k0
  have n0 := (congrFun nq _).trans n0
  have k1 := (kq _).trans k1
  have n1 := (congrFun nq _).trans n1
  refine en_segs [(21, .aload_n 0, []), (22, .bipush 12, [])] (by decide +kernel) (y := (24, [some (.ref a0), some (.ref a1)], [.int 12, .ref a0], h)) rfl ?_
  refine en_nzA (N := 12) (B := aX d) (j := 2) (by decide +kernel : u_at kl_40 24 = some (.newarray .int, [1])) hW (by decide +kernel) (by decide +kernel) rfl hX hf ha0 (fun h e4 he4 hW x k2 n2 hX hf ha0 => ?_)
  have n0 := (x.2.2.2.2.2.2.2 _ _ k0).trans n0
  have k0 := x.z k0
  have n1 := (x.2.2.2.2.2.2.2 _ _ k1).trans n1
  have k1 := x.z k1
  have W := W.trans (Adw.of x)
  refine en_putA (fs' := [.null, .ref (aX d + 0), .int 0, .int 0, .ref (aX d + 1), .ref (aX d + 2)]) (by decide +kernel : u_at kl_40 26 = some (.putfield 18, [5, 5, 3])) hW ha0 hf (Nat.le_of_ble_eq_true rfl) rfl rfl hX (fun h e5 he5 hW kq nq hX hf ha0 y => ?_)
  have W := W.trans y
  have k0 := (kq _).trans k0
  have n0 := (congrFun nq _).trans n0
  have k1 := (kq _).trans k1
  have n1 := (congrFun nq _).trans n1
  have k2 := (kq _).trans k2
  have n2 := (congrFun nq _).trans n2
  refine en_segs [(29, .aload_n 0, []), (30, .aload_n 1, [])] (by decide +kernel) (y := (31, [some (.ref a0), some (.ref a1)], [.ref a1, .ref a0], h)) rfl ?_
  refine en_putA (fs' := [.ref a1, .ref (aX d + 0), .int 0, .int 0, .ref (aX d + 1), .ref (aX d + 2)]) (by decide +kernel : u_at kl_40 31 = some (.putfield 21, [5, 0, 3])) hW ha0 hf (Nat.le_of_ble_eq_true rfl) rfl rfl hX (fun h e6 he6 hW kq nq hX hf ha0 y => ?_)
  have W := W.trans y
  have k0 := (kq _).trans k0
  have n0 := (congrFun nq _).trans n0
  have k1 := (kq _).trans k1
  have n1 := (congrFun nq _).trans n1
  have k2 := (kq _).trans k2
  have n2 := (congrFun nq _).trans n2
  have hS : aS e6 = aS d + 424 := by simp only [he0, he1, he2, he3, he4, he5, he6, os_f, os_z, Nat.add_zero]
  exact en_ret (by decide +kernel : u_at kl_40 34 = some (.return_, [])) rfl ⟨rfl, e6, hW, W, ha0, hf, hX, hS, ⟨k0, n0⟩, ⟨k1, n1⟩, ⟨k2, n2⟩⟩
def G_116 (a0 : Nat) (a1 : Nat) (lab : Nat) (xs : List Int32) (ys : List Int64) (zs : List Nat) (c8 : Cl) (c10 : Cl) (d : Ad) : Option (Cl × Cl × Ad) := match lab, xs, ys, zs with
  | 0, [x2], [], [] =>
    if 20 ≤ x2 then
    some (c8, c10, d)
    else
    F_80 c8 (adr d 8) (aX d) a1 >>= fun r7 =>
    asq c10 1 a0 20 x2 (aX d) >>= fun c10_12 =>
    G_116 a0 a1 0 [x2 + 1] [] [] r7.1 c10_12 r7.2
  | _, _, _, _ => none
partial_fixpoint
set_option maxRecDepth 100000 in
set_option maxHeartbeats 4000000 in
theorem g_116 {D : Nat} (hD : 2 ≤ D + 1) {c0 c1 c2 c3 c4 c5 c6 c7 c9 c11 c12 c13 : Cl} {a0 : Nat} {a1 : Nat} : ∀ (lab : Nat) (xs : List Int32) (ys : List Int64) (zs : List Nat) (c8 : Cl) (c10 : Cl) (d : Ad) (r : (Cl × Cl × Ad)), G_116 a0 a1 lab xs ys zs c8 c10 d = some r →
    (∀ (x2 : Int32), lab = 0 → xs = [x2] → ys = [] → zs = [] → aK d a0 = (0, 10, 0) → aK d a1 = (0, 1, 0) → ∀ h : UH, HW (mkw c0 c1 c2 c3 c4 c5 c6 c7 c8 c9 c10 c11 c12 c13) d h → ∀ QQ : UR → Prop, (∀ h' : UH, HX d (mkw c0 c1 c2 c3 c4 c5 c6 c7 r.1 c9 r.2.1 c11 c12 c13) r.2.2 h' → QQ (none, h')) → Ends (EX D) (u_at kl_116) (51, [some (.ref a0), some (.ref a1), some (.int x2)], [], h) QQ) := by
  refine G_116.partial_correctness _ _ (motive := fun lab xs ys zs c8 c10 d r =>
    (∀ (x2 : Int32), lab = 0 → xs = [x2] → ys = [] → zs = [] → aK d a0 = (0, 10, 0) → aK d a1 = (0, 1, 0) → ∀ h : UH, HW (mkw c0 c1 c2 c3 c4 c5 c6 c7 c8 c9 c10 c11 c12 c13) d h → ∀ QQ : UR → Prop, (∀ h' : UH, HX d (mkw c0 c1 c2 c3 c4 c5 c6 c7 r.1 c9 r.2.1 c11 c12 c13) r.2.2 h' → QQ (none, h')) → Ends (EX D) (u_at kl_116) (51, [some (.ref a0), some (.ref a1), some (.int x2)], [], h) QQ)) ?_
  intro G ih lab xs ys zs c8 c10 d r hF
  · intro x2 e1 e2 e3 e4 ha0 ha1 h hW QQ hQ
    subst e1 e2 e3 e4
    refine en_segs [(51, .iload_n 2, []), (52, .bipush 20, [])] (by decide +kernel) (y := (54, [some (.ref a0), some (.ref a1), some (.int x2)], [.int 20, .int x2], h)) rfl ?_
    refine en_ic_ge (by decide +kernel : u_at kl_116 54 = some (.if_icmp .ge 23, [77])) (fun b1 => ?_) (fun b1 => ?_)
    · replace hF := i_pos b1 hF
      obtain rfl := Option.some.inj hF
      exact en_ret (by decide +kernel : u_at kl_116 77 = some (.return_, [])) rfl (hQ _ ⟨hW, Adx.rf⟩)
    · replace hF := i_neg b1 hF
      refine en_segs [(57, .aload_n 0, [])] (by decide +kernel) (y := (58, [some (.ref a0), some (.ref a1), some (.int x2)], [.ref a0], h)) rfl ?_
      refine en_get (by decide +kernel : u_at kl_116 58 = some (.getfield 11, [10, 1])) hW ha0 (by decide) rfl ?_
      refine en_segs [(61, .iload_n 2, [])] (by decide +kernel) (y := (62, [some (.ref a0), some (.ref a1), some (.int x2)], [.int x2, .ref (aP d 10 1 a0)], h)) rfl ?_
      have W4 := hW
      refine en_new (by decide +kernel : u_at kl_116 62 = some (.new 9, [8])) hW (fun h hW X2 k3 => ?_)
      have f5 := adr_F d 8
      have ha0 := X2.o ha0
      have ha1 := X2.o ha1
      have A6 := X2
      refine en_segs [(65, .dup, []), (66, .aload_n 1, [])] (by decide +kernel) (y := (67, [some (.ref a0), some (.ref a1), some (.int x2)], [.ref a1, .ref (aX d), .ref (aX d), .int x2, .ref (aP (adr d 8) 10 1 a0)], h)) rfl ?_
      obtain ⟨r7, hr7, hF⟩ := ob_some hF
      refine en_iw (r := [.ref (aX d), .int x2, .ref (aP (adr d 8) 10 1 a0)]) (by decide +kernel : u_at kl_116 67 = some (.invokespecial 27, [80, 1, 8])) hW k3 rfl rfl (Nat.le_of_ble_eq_true rfl) (w_80 (D := D) (by omega) hW k3 f5 ha1 hr7) (fun h q8 => ?_)
      obtain ⟨hW, W9, k10⟩ := q8
      rw [show aP (adr d 8) 10 1 a0 = aP r7.2 10 1 a0 from W9.p k3 ha0]
      have ha0 := W9.o k3 ha0
      have ha1 := W9.o k3 ha1
      have A11 := Adw.adx W4 X2 W9
      have hW : HW (mkw c0 c1 c2 c3 c4 c5 c6 c7 r7.1 c9 c10 c11 c12 c13) r7.2 h := hW
      obtain ⟨c10_12, hc10_12, hF⟩ := ob_some hF
      refine en_aast (by decide +kernel : u_at kl_116 70 = some (.aastore, [])) hW ha0 rfl (by decide) (by decide) k10 hc10_12 (fun h hW => ?_)
      have hW : HW (mkw c0 c1 c2 c3 c4 c5 c6 c7 r7.1 c9 c10_12 c11 c12 c13) r7.2 h := hW
      refine en_segs [(71, .iinc 2 1, []), (74, .goto (-23), [51])] (by decide +kernel) (y := (51, [some (.ref a0), some (.ref a1), some (.int (x2 + 1))], [], h)) rfl ?_
      exact (ih _ _ _ _ _ _ _ _ hF) _ rfl rfl rfl rfl  ha0 ha1 _ hW _ (fun h' p => hQ h' ⟨p.1, A11.trans p.2⟩)
def T_116 (c8 : Cl) (c10 : Cl) (d : Ad) (a0 : Nat) (a1 : Nat) : Option (Cl × Cl × Ad) :=
  G_116 a0 a1 0 [0] [] [] c8 c10 d
set_option maxRecDepth 100000 in
set_option maxHeartbeats 4000000 in
/-- HeadCounts$World.<init> -/
theorem t_116 {D : Nat} {c0 c1 c2 c3 c4 c5 c6 c7 c8 c9 c10 c11 c12 c13 : Cl} {d : Ad} {h : UH} {a0 : Nat} {a1 : Nat} {r : (Cl × Cl × Ad)} (hD : 2 ≤ D + 1) (hW : HW (mkw c0 c1 c2 c3 c4 c5 c6 c7 c8 c9 c10 c11 c12 c13) d h) (ha0 : aK d a0 = (0, 10, 0)) (ha1 : aK d a1 = (0, 1, 0)) (hF : T_116 c8 c10 d a0 a1 = some r) (QQ : UR → Prop) (hQ : (∀ h' : UH, HX d (mkw c0 c1 c2 c3 c4 c5 c6 c7 r.1 c9 r.2.1 c11 c12 c13) r.2.2 h' → QQ (none, h'))) : Ends (EX D) (u_at kl_116) (49, [some (.ref a0), some (.ref a1), none], [], h) QQ := by
  unfold T_116 at hF
  refine en_segs [(49, .iconst 0, []), (50, .istore_n 2, [])] (by decide +kernel) (y := (51, [some (.ref a0), some (.ref a1), some (.int 0)], [], h)) rfl ?_
  exact (g_116 (D := D) hD _ _ _ _ _ _ _ _ hF) _ rfl rfl rfl rfl  ha0 ha1 _ hW _ hQ
/-- the world ahead of its loop -/
def pD_10 (d : Ad) (a0 a1 : Nat) : Ad := own (adf (nD_8 (adr (adf (adz (adf (adz (adf (adz (adf (adz (d) 5 20) a0 [.null, .ref (aX d + 0), .int 0, .int 0, .int 0, .int 0, .null, .null, .null]) 1 12) a0 [.null, .ref (aX d + 0), .int 0, .int 0, .int 0, .int 0, .ref (aX d + 1), .null, .null]) 1 12) a0 [.null, .ref (aX d + 0), .int 0, .int 0, .int 0, .int 0, .ref (aX d + 1), .ref (aX d + 2), .null]) 1 12) a0 [.null, .ref (aX d + 0), .int 0, .int 0, .int 0, .int 0, .ref (aX d + 1), .ref (aX d + 2), .ref (aX d + 3)]) 8) (aX d + 4) a1) a0 [.ref (aX d + 4), .ref (aX d + 0), .int 0, .int 0, .int 0, .int 0, .ref (aX d + 1), .ref (aX d + 2), .ref (aX d + 3)]) 10 a0 (aX d) [some 1, some 6, some 7, some 8]
def F_116 (c8 c10 : Cl) (d : Ad) (a0 a1 : Nat) : Option (Cl × Cl × Ad) := T_116 (nC_8 c8 (aX d + 4) a1) (sR (zat c10 a0) 0 a0 (aX d + 4)) (pD_10 d a0 a1) a0 a1
theorem pD_10_x (d : Ad) (a0 a1 : Nat) : aX (pD_10 d a0 a1) = aX d + 15 := by unfold pD_10; rw [ox_o, ox_f, nD_8_x, ox_r, ox_f, ox_z, ox_f, ox_z, ox_f, ox_z, ox_f, ox_z]
theorem pD_10_s (d : Ad) (a0 a1 : Nat) : aS (pD_10 d a0 a1) = aS d + 184 := by unfold pD_10; rw [os_o, os_f, nD_8_s, os_r, os_f, os_z, os_f, os_z, os_f, os_z, os_f, os_z]; rfl
set_option maxRecDepth 100000 in
set_option maxHeartbeats 4000000 in
theorem w_116 {D : Nat} {c0 c1 c2 c3 c4 c5 c6 c7 c8 c9 c10 c11 c12 c13 : Cl} {d : Ad} {h : UH} {a0 a1 : Nat} {r : Cl × Cl × Ad} (hD : 2 ≤ D) (hW : HW (mkw c0 c1 c2 c3 c4 c5 c6 c7 c8 c9 c10 c11 c12 c13) d h) (ha0 : aK d a0 = (3, 10, 0)) (hf : aF d a0 = u_def 10) (ha1 : aK d a1 = (0, 1, 0)) (hF : F_116 c8 c10 d a0 a1 = some r) : ∃ q, EX D 116 [.ref a0, .ref a1] h q ∧ q.1 = none ∧ WX a0 10 d (mkw c0 c1 c2 c3 c4 c5 c6 c7 r.1 c9 r.2.1 c11 c12 c13) r.2.2 q.2 := by
  obtain ⟨D, rfl⟩ : ∃ E, D = E + 1 := ⟨D - 1, by omega⟩
  have hd0 := hW
  have hb0 := ha1
  have hlt := hw_old hW ha0 (by decide)
  have W : Adw a0 d d := Adw.of Adx.rf
  unfold F_116 at hF
  refine ex_in (kl := kl_116) (nL := 3) rfl (by decide +kernel) (Nat.le_of_ble_eq_true rfl) ?_
  show Ends (EX D) (u_at kl_116) (0, [some (.ref a0), some (.ref a1), none], [], h) _
  have hX : aX d = aX d + 0 := rfl
  have hS : aS d = aS d + 0 := rfl
  have hf : aF d a0 = [.null, .null, .int 0, .int 0, .int 0, .int 0, .null, .null, .null] := hf
  refine en_segs [(0, .aload_n 0, []), (1, .invokespecial 3, []), (4, .aload_n 0, []), (5, .bipush 20, [])] (by decide +kernel) (y := (7, [some (.ref a0), some (.ref a1), none], [.int 20, .ref a0], h)) rfl ?_
  refine en_nazO (N := 20) (by decide +kernel : u_at kl_116 7 = some (.anewarray 9, [5])) hW (by decide +kernel) (by decide +kernel) rfl hX hS (fun h e1 hEe1 hW x k1 n2 hX1 hS1 => ?_)
  have hf := (x.w ha0).2.trans hf
  have ha0 := (x.w ha0).1
  have ha1 := x.o ha1
  have W := W.trans (Adw.of x)
  have hX : aX e1 = aX d + 1 := hX1
  have hS : aS e1 = aS d + 20 := hS1.trans (Nat.add_assoc _ _ _)
  refine en_putA (fs' := [.null, .ref (aX d + 0), .int 0, .int 0, .int 0, .int 0, .null, .null, .null]) (by decide +kernel : u_at kl_116 10 = some (.putfield 11, [10, 1, 3])) hW ha0 hf (Nat.le_of_ble_eq_true rfl) rfl rfl hX (fun h e2 hEe2 hW kq nq hX1 hf1 ha01 y => ?_)
  have hS : aS e2 = aS d + 20 := by rw [hEe2]; exact hS
  have k1 := (kq _).trans k1
  have n2 := (congrFun nq _).trans n2
  have ha1 := (kq _).trans ha1
  have W := W.trans y
  have hX := hX1
  have hf := hf1
  have ha0 := ha01
  refine en_segs [(13, .aload_n 0, []), (14, .bipush 12, [])] (by decide +kernel) (y := (16, [some (.ref a0), some (.ref a1), none], [.int 12, .ref a0], h)) rfl ?_
  refine en_nzO (N := 12) (by decide +kernel : u_at kl_116 16 = some (.newarray .int, [1])) hW (by decide +kernel) (by decide +kernel) rfl hX hS (fun h e3 hEe3 hW x k3 n4 hX1 hS1 => ?_)
  have hf := (x.w ha0).2.trans hf
  have ha0 := (x.w ha0).1
  have n2 := (x.2.2.2.2.2.2.2 _ _ k1).trans n2
  have k1 := x.z k1
  have ha1 := x.o ha1
  have W := W.trans (Adw.of x)
  have hX : aX e3 = aX d + 2 := hX1
  have hS : aS e3 = aS d + 32 := hS1.trans (Nat.add_assoc _ _ _)
  refine en_putA (fs' := [.null, .ref (aX d + 0), .int 0, .int 0, .int 0, .int 0, .ref (aX d + 1), .null, .null]) (by decide +kernel : u_at kl_116 18 = some (.putfield 17, [10, 6, 3])) hW ha0 hf (Nat.le_of_ble_eq_true rfl) rfl rfl hX (fun h e4 hEe4 hW kq nq hX1 hf1 ha01 y => ?_)
  have hS : aS e4 = aS d + 32 := by rw [hEe4]; exact hS
  have k1 := (kq _).trans k1
  have n2 := (congrFun nq _).trans n2
  have k3 := (kq _).trans k3
  have n4 := (congrFun nq _).trans n4
  have ha1 := (kq _).trans ha1
  have W := W.trans y
  have hX := hX1
  have hf := hf1
  have ha0 := ha01
  refine en_segs [(21, .aload_n 0, []), (22, .bipush 12, [])] (by decide +kernel) (y := (24, [some (.ref a0), some (.ref a1), none], [.int 12, .ref a0], h)) rfl ?_
  refine en_nzO (N := 12) (by decide +kernel : u_at kl_116 24 = some (.newarray .int, [1])) hW (by decide +kernel) (by decide +kernel) rfl hX hS (fun h e5 hEe5 hW x k5 n6 hX1 hS1 => ?_)
  have hf := (x.w ha0).2.trans hf
  have ha0 := (x.w ha0).1
  have n2 := (x.2.2.2.2.2.2.2 _ _ k1).trans n2
  have k1 := x.z k1
  have n4 := (x.2.2.2.2.2.2.2 _ _ k3).trans n4
  have k3 := x.z k3
  have ha1 := x.o ha1
  have W := W.trans (Adw.of x)
  have hX : aX e5 = aX d + 3 := hX1
  have hS : aS e5 = aS d + 44 := hS1.trans (Nat.add_assoc _ _ _)
  refine en_putA (fs' := [.null, .ref (aX d + 0), .int 0, .int 0, .int 0, .int 0, .ref (aX d + 1), .ref (aX d + 2), .null]) (by decide +kernel : u_at kl_116 26 = some (.putfield 21, [10, 7, 3])) hW ha0 hf (Nat.le_of_ble_eq_true rfl) rfl rfl hX (fun h e6 hEe6 hW kq nq hX1 hf1 ha01 y => ?_)
  have hS : aS e6 = aS d + 44 := by rw [hEe6]; exact hS
  have k1 := (kq _).trans k1
  have n2 := (congrFun nq _).trans n2
  have k3 := (kq _).trans k3
  have n4 := (congrFun nq _).trans n4
  have k5 := (kq _).trans k5
  have n6 := (congrFun nq _).trans n6
  have ha1 := (kq _).trans ha1
  have W := W.trans y
  have hX := hX1
  have hf := hf1
  have ha0 := ha01
  refine en_segs [(29, .aload_n 0, []), (30, .bipush 12, [])] (by decide +kernel) (y := (32, [some (.ref a0), some (.ref a1), none], [.int 12, .ref a0], h)) rfl ?_
  refine en_nzO (N := 12) (by decide +kernel : u_at kl_116 32 = some (.newarray .int, [1])) hW (by decide +kernel) (by decide +kernel) rfl hX hS (fun h e7 hEe7 hW x k7 n8 hX1 hS1 => ?_)
  have hf := (x.w ha0).2.trans hf
  have ha0 := (x.w ha0).1
  have n2 := (x.2.2.2.2.2.2.2 _ _ k1).trans n2
  have k1 := x.z k1
  have n4 := (x.2.2.2.2.2.2.2 _ _ k3).trans n4
  have k3 := x.z k3
  have n6 := (x.2.2.2.2.2.2.2 _ _ k5).trans n6
  have k5 := x.z k5
  have ha1 := x.o ha1
  have W := W.trans (Adw.of x)
  have hX : aX e7 = aX d + 4 := hX1
  have hS : aS e7 = aS d + 56 := hS1.trans (Nat.add_assoc _ _ _)
  refine en_putA (fs' := [.null, .ref (aX d + 0), .int 0, .int 0, .int 0, .int 0, .ref (aX d + 1), .ref (aX d + 2), .ref (aX d + 3)]) (by decide +kernel : u_at kl_116 34 = some (.putfield 24, [10, 8, 3])) hW ha0 hf (Nat.le_of_ble_eq_true rfl) rfl rfl hX (fun h e8 hEe8 hW kq nq hX1 hf1 ha01 y => ?_)
  have hS : aS e8 = aS d + 56 := by rw [hEe8]; exact hS
  have k1 := (kq _).trans k1
  have n2 := (congrFun nq _).trans n2
  have k3 := (kq _).trans k3
  have n4 := (congrFun nq _).trans n4
  have k5 := (kq _).trans k5
  have n6 := (congrFun nq _).trans n6
  have k7 := (kq _).trans k7
  have n8 := (congrFun nq _).trans n8
  have ha1 := (kq _).trans ha1
  have W := W.trans y
  have hX := hX1
  have hf := hf1
  have ha0 := ha01
  refine en_segs [(37, .aload_n 0, [])] (by decide +kernel) (y := (38, [some (.ref a0), some (.ref a1), none], [.ref a0], h)) rfl ?_
  refine en_newO (N := 14) (by decide +kernel : u_at kl_116 38 = some (.new 9, [8])) hW hX hS rfl (fun h e9 hEe9 hW x k9 f10 hX1 hS1 => ?_)
  have hf := (x.w ha0).2.trans hf
  have ha0 := (x.w ha0).1
  have n2 := (x.2.2.2.2.2.2.2 _ _ k1).trans n2
  have k1 := x.z k1
  have n4 := (x.2.2.2.2.2.2.2 _ _ k3).trans n4
  have k3 := x.z k3
  have n6 := (x.2.2.2.2.2.2.2 _ _ k5).trans n6
  have k5 := x.z k5
  have n8 := (x.2.2.2.2.2.2.2 _ _ k7).trans n8
  have k7 := x.z k7
  have ha1 := x.o ha1
  have W := W.trans (Adw.of x)
  have hX : aX e9 = aX d + 5 := hX1
  have hS : aS e9 = aS d + 70 := hS1.trans (Nat.add_assoc _ _ _)
  refine en_segs [(41, .dup, []), (42, .aload_n 1, [])] (by decide +kernel) (y := (43, [some (.ref a0), some (.ref a1), none], [.ref a1, .ref (aX d + 4), .ref (aX d + 4), .ref a0], h)) rfl ?_
  refine en_iwO (e0 := nD_8 e9 (aX d + 4) a1) (w' := mkw c0 c1 c2 c3 c4 c5 c6 c7 (nC_8 c8 (aX d + 4) a1) c9 c10 c11 c12 c13) (r := [.ref (aX d + 4), .ref a0]) (by decide +kernel : u_at kl_116 43 = some (.invokespecial 27, [80, 1, 8])) hW k9 rfl rfl (Nat.le_of_ble_eq_true rfl) (w_80 (D := D) (by omega) hW k9 f10 ha1 rfl) (fun h e10 hEe10 hW V11 k12 => ?_)
  have hX1 : aX e10 = aX d + 15 := (congrArg aX hEe10).trans (((nD_8_x e9 (aX d + 4) a1).trans (congrArg (· + 10) hX)).trans (Nat.add_assoc _ _ _))
  have hS1 : aS e10 = aS d + 184 := (congrArg aS hEe10).trans (((nD_8_s e9 (aX d + 4) a1).trans (congrArg (· + 114) hS)).trans (Nat.add_assoc _ _ _))
  have hf := (V11.w (show a0 ≠ aX d + 4 from (Nat.ne_of_lt (Nat.lt_of_lt_of_le hlt (Nat.le_add_right _ _)))) ha0).2.trans hf
  have ha0 := (V11.w (show a0 ≠ aX d + 4 from (Nat.ne_of_lt (Nat.lt_of_lt_of_le hlt (Nat.le_add_right _ _)))) ha0).1
  have n2 := (V11.2.2.2.2.2.2.2 _ _ (show aX d + 0 ≠ aX d + 4 from (fun q => absurd (Nat.add_left_cancel q) (by decide))) k1).trans n2
  have k1 := V11.z k9 k1
  have n4 := (V11.2.2.2.2.2.2.2 _ _ (show aX d + 1 ≠ aX d + 4 from (fun q => absurd (Nat.add_left_cancel q) (by decide))) k3).trans n4
  have k3 := V11.z k9 k3
  have n6 := (V11.2.2.2.2.2.2.2 _ _ (show aX d + 2 ≠ aX d + 4 from (fun q => absurd (Nat.add_left_cancel q) (by decide))) k5).trans n6
  have k5 := V11.z k9 k5
  have n8 := (V11.2.2.2.2.2.2.2 _ _ (show aX d + 3 ≠ aX d + 4 from (fun q => absurd (Nat.add_left_cancel q) (by decide))) k7).trans n8
  have k7 := V11.z k9 k7
  have ha1 := V11.o k9 ha1
  have W := Adw.skip hd0 (Nat.le_add_right _ _) W V11
  have hX := hX1
  have hS := hS1
  refine en_putA (fs' := [.ref (aX d + 4), .ref (aX d + 0), .int 0, .int 0, .int 0, .int 0, .ref (aX d + 1), .ref (aX d + 2), .ref (aX d + 3)]) (by decide +kernel : u_at kl_116 46 = some (.putfield 30, [10, 0, 3])) hW ha0 hf (Nat.le_of_ble_eq_true rfl) rfl rfl hX (fun h e11 hEe11 hW kq nq hX1 hf1 ha01 y => ?_)
  have hS : aS e11 = aS d + 184 := by rw [hEe11]; exact hS
  have k1 := (kq _).trans k1
  have n2 := (congrFun nq _).trans n2
  have k3 := (kq _).trans k3
  have n4 := (congrFun nq _).trans n4
  have k5 := (kq _).trans k5
  have n6 := (congrFun nq _).trans n6
  have k7 := (kq _).trans k7
  have n8 := (congrFun nq _).trans n8
  have ha1 := (kq _).trans ha1
  have k12 := (kq _).trans k12
  have W := W.trans y
  have hX := hX1
  have hf := hf1
  have ha0 := ha01
  have WO := own_w (c := 10) (X := aX d) (l := [some 1, some 6, some 7, some 8]) hd0 (Nat.le_refl _) W
  have hO : HW (mkw c0 c1 c2 c3 c4 c5 c6 c7 (nC_8 c8 (aX d + 4) a1) c9 (sR (zat c10 a0) 0 a0 (aX d + 4)) c11 c12 c13) (own e11 10 a0 (aX d) [some 1, some 6, some 7, some 8]) h := by
    refine hw_own2 (c := 10) (a := a0) (X := aX d) (l := [some 1, some 6, some 7, some 8]) (x := (sR (zat c10 a0) 0 a0 (aX d + 4))) hW (by decide) ha0 (by decide +kernel) (fun i k e => ?_) (fun k b g => ?_) (fun k => ?_) ?_ (fun k hk h3 => ?_)
    · rcases i with _ | _ | _ | _ | i
      · cases e; exact ⟨k1, n2⟩
      · cases e; exact ⟨k3, n4⟩
      · cases e; exact ⟨k5, n6⟩
      · cases e; exact ⟨k7, n8⟩
      · cases e
    · show cI _ k b = cI c10 k b ∧ cJ _ k b = cJ c10 k b ∧ cR _ k b = cR c10 k b ∧ cA _ k b = cA c10 k b ∧ cB _ k b = cB c10 k b ∧ cQ _ k b = cQ c10 k b
      simp [sI, sJ, sR, zat, cI, cJ, cR, cA, cB, cQ, up2, g]
    · simp [sI, sJ, sR, zat, cI, cJ, cR, cA, cB, cQ, up2]
    · rw [hf]
      show _ = ([.ref (cR (sR (zat c10 a0) 0 a0 (aX d + 4)) 0 a0), .ref (if a0 = a0 then aX d + List.idxOf (some 1) [some 1, some 6, some 7, some 8] else aP e11 10 1 a0), .int (cI (sR (zat c10 a0) 0 a0 (aX d + 4)) 2 a0), .int (cI (sR (zat c10 a0) 0 a0 (aX d + 4)) 3 a0), .int (cI (sR (zat c10 a0) 0 a0 (aX d + 4)) 4 a0), .int (cI (sR (zat c10 a0) 0 a0 (aX d + 4)) 5 a0), .ref (if a0 = a0 then aX d + List.idxOf (some 6) [some 1, some 6, some 7, some 8] else aP e11 10 6 a0), .ref (if a0 = a0 then aX d + List.idxOf (some 7) [some 1, some 6, some 7, some 8] else aP e11 10 7 a0), .ref (if a0 = a0 then aX d + List.idxOf (some 8) [some 1, some 6, some 7, some 8] else aP e11 10 8 a0)] : List Value)
      simp [sI, sJ, sR, zat, cI, cJ, cR, cA, cB, cQ, up2, List.idxOf, List.findIdx, List.findIdx.go]
    · rcases k with _ | _ | _ | _ | _ | _ | _ | _ | _ | k
      · show aK _ (cR (sR (zat c10 a0) 0 a0 (aX d + 4)) 0 a0) = _
        have : cR (sR (zat c10 a0) 0 a0 (aX d + 4)) 0 a0 = aX d + 4 := by simp [sI, sJ, sR, zat, cI, cJ, cR, cA, cB, cQ, up2]
        rw [this, own_K, if_neg (by have := hlt; omega), ownS_n (fun ⟨i, k, e1, e2⟩ => by have : i = 4 := (by omega); subst this; cases e1)]
        exact k12
      · exact absurd rfl h3
      · exact True.intro
      · exact True.intro
      · exact True.intro
      · exact True.intro
      · exact absurd rfl h3
      · exact absurd rfl h3
      · exact absurd rfl h3
      · exact absurd hk (Nat.not_lt.mpr (Nat.le_add_left _ _))
  have hp : pD_10 d a0 a1 = own e11 10 a0 (aX d) [some 1, some 6, some 7, some 8] := by
    unfold pD_10
    rw [hEe11, hEe10, hEe9, hEe8, hEe7, hEe6, hEe5, hEe4, hEe3, hEe2, hEe1]
  rw [← hp] at hO WO
  have kO : aK (pD_10 d a0 a1) a0 = (0, 10, 0) := by rw [hp, own_K, if_pos rfl]
  have z1 : a1 ≠ a0 := fun q => by rw [q, ha0] at ha1; cases ha1
  have hb1 := hb0
  have kO1 : aK (pD_10 d a0 a1) a1 = (0, 1, 0) := (WO.2.1 a1 z1 (by rw [hb1]; exact fun q => by cases q)).trans hb1
  refine t_116 (D := D) (by omega) hO kO kO1 hF _ (fun h1 g1 => ⟨rfl, g1.1, WO.trans (Adw.of g1.2), g1.2.o kO⟩)
