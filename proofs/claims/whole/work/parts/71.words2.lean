/-! ===== words of rules: the reference ===== -/
theorem stl_ok {c : Cl} {k a n i : Nat} {x : Int64} (h : i < n) (hn : n < 2 ^ 31) : stl c k a n (nI i) x = some (sB c k a (vp_updL (cB c k a) i x)) := by
  unfold stl; rw [if_neg (nI_in h hn), nI_clamp (by omega)]
theorem ldl_ok {f : Nat → Int64} {n i : Nat} (h : i < n) (hn : n < 2 ^ 31) : ldl f n (nI i) = some (f i) := by
  unfold ldl; rw [if_neg (nI_in h hn), nI_clamp (by omega)]
theorem rn_sl {β : Type} {c : Cl} {k0 a n i : Nat} {x : Int64} {g : Cl → Option β} {Q : β → Prop} (h : i < n) (hn : n < 2 ^ 31) (k : Rn (g (sB c k0 a (vp_updL (cB c k0 a) i x))) Q) : Rn (stl c k0 a n (nI i) x >>= g) Q := rn_e (stl_ok h hn) k
theorem rn_ll {β : Type} {f : Nat → Int64} {n i : Nat} {g : Int64 → Option β} {Q : β → Prop} (h : i < n) (hn : n < 2 ^ 31) (k : Rn (g (f i)) Q) : Rn (ldl f n (nI i) >>= g) Q := rn_e (ldl_ok h hn) k
theorem cB_same (c : Cl) (k a : Nat) (f : Nat → Int64) : cB (sB c k a f) k a = f := up2_same _ _ _ _
theorem cB_ne {c : Cl} {k a : Nat} {f : Nat → Int64} {j b : Nat} (h : j ≠ k) : cB (sB c k a f) j b = cB c j b := by
  rw [cB_sB, if_neg (fun z => h z.1)]
section Words2
variable {c12 : Cl} {B2 : Nat} {c1 c8 : Cl} {st : Nat} {R D H Q M L E : Nat} {K : Nat → Nat}
/-- what the reference's words need of its row -/
theorem r_230 (hS : SR c1 c8 st (cA c12 20 B2) R D H Q M L E K) {c : Cl} (hc : cA c 20 B2 = cA c12 20 B2) {r : Nat} (hr : r < R) : F_230 c B2 (nI r) = some (cago (cA c12 20 B2) H M r (K r)) := by
  obtain ⟨⟨-, hR, r6⟩, ⟨-, hD, d10⟩, ⟨-, hH, h6⟩, -, -, n14, n15⟩ := id hS.1.1
  obtain ⟨-, k2, k3⟩ := hS.c.2.2.2 r hr
  have := f_230 (c := c) (a := B2) (H := H) (M := M) (r := r) (k := K r) (by rw [hc]; exact hH) h6 (by rw [hc]; exact n14) (by omega) (by omega) (by omega) (by rw [hc]; exact k2)
  rw [hc] at this
  exact this
theorem bf_p {can fe : Nat → Int32} {mx : Bool} {n : Nat} (h : can n = 0) : bf can fe mx (n + 1) = bf can fe mx n := if_pos h
theorem bf_0 {can fe : Nat → Int32} {mx : Bool} {n : Nat} (h : ¬ can n = 0) (e : bf can fe mx n = none) : bf can fe mx (n + 1) = some n := by
  conv => lhs; unfold bf
  rw [if_neg h, e]
theorem bf_1 {can fe : Nat → Int32} {mx : Bool} {n b : Nat} (h : ¬ can n = 0) (e : bf can fe mx n = some b) : bf can fe mx (n + 1) = if (if mx then fe b < fe n else fe n < fe b) then some n else some b := by
  conv => lhs; unfold bf
  rw [if_neg h, e]
theorem wst {β : Type} {c : Cl} {W : Nat → Int64} {i : Nat} {x : Int64} {g : Cl → Option β} {P : β → Prop} (hK : Kp [19] c12 c) (hv : ∀ k, k < i → cB c 19 B2 k = W k) (hi : i < 12) (hx : x = W i) (k : ∀ c', Kp [19] c12 c' → (∀ k, k < i + 1 → cB c' 19 B2 k = W k) → Rn (g c') P) : Rn (stl c 19 B2 12 (nI i) x >>= g) P := by
  refine rn_sl hi (by decide) (k _ (kp_tr hK (kp_B (by decide))) (fun j q => ?_))
  rw [cB_same]
  by_cases w : j = i
  · subst w; rw [pk_uLs, hx]
  · rw [pk_uLn w]; exact hv j (by omega)
/-- the words stand in their row -/
theorem tail_249 {h : Nat} {o1 o2 : Option Nat} (hh : h < H) (hS : SR c1 c8 st (cA c12 20 B2) R D H Q M L E K) (e1 : o1 = bf (cg (cA c12 20 B2) H D h) (fun r => cago (cA c12 20 B2) H M r (K r)) false R) (e2 : o2 = bf (cg (cA c12 20 B2) H D h) (fun r => cago (cA c12 20 B2) H M r (K r)) true R) : Rn (G_249 c12 B2 0 [nI h, ob o1, ob o2, nI R] [] []) (fun r => Kp [19] c12 r ∧ ∀ k, k < 12 → cB r 19 B2 k = (wd (cA c12 20 B2) R D H M K h k).toInt64) := by
  obtain ⟨⟨hn, hs0, hs, hm, hl, hd, he, hz, hf⟩, hc, hp⟩ := id hS
  obtain ⟨⟨-, hR, r6⟩, ⟨-, hD, d10⟩, ⟨-, hH, h6⟩, -, -, n14, n15⟩ := id hn
  obtain ⟨⟨x, hx, ex⟩, -, -, cm⟩ := hz.2.1 h hh
  have b1 : ∀ b, o1 = some b → b < R := fun b q => bf_lt (e1.symm.trans q)
  have b2 : ∀ b, o2 = some b → b < R := fun b q => bf_lt (e2.symm.trans q)
  have cc : ∀ {c : Cl}, Kp [19] c12 c → cA c 20 B2 = cA c12 20 B2 := fun {c} hK => by rw [(hK 20 (by decide)).2.2.2.1]
  have g : ∀ {c : Cl} (w : Nat), Kp [19] c12 c → w < 6 → F_223 c B2 (nI h) (nI w) = some (cA c12 20 B2 (40 + 6 * h + w)) := fun {c} w q hw => by rw [f_223 (by omega) hw, cc q]
  have n1 : ∀ o : Option Nat, (∀ b, o = some b → b < R) → ((if 0 ≤ ob o then some ((ob o : Int32).toInt64) else some 99) : Option Int64) = some (o99 o).toInt64 := fun o q => by
    cases o with
    | none => rfl
    | some b => exact in_pos (nI_pos' (by have := q b rfl; omega)) rfl
  have n2 : ∀ {c : Cl} (o : Option Nat), Kp [19] c12 c → (∀ b, o = some b → b < R) → ((if 0 ≤ ob o then F_230 c B2 (ob o) >>= fun r => some ((r : Int32).toInt64) else some 0) : Option Int64) = some (oF (fun r => cago (cA c12 20 B2) H M r (K r)) o).toInt64 := fun {c} o qc q => by
    cases o with
    | none => rfl
    | some b => exact in_pos (nI_pos' (by have := q b rfl; omega)) (ob_mk (r_230 hS (cc qc) (q b rfl)) rfl)
  have n3 : ∀ {c : Cl}, Kp [19] c12 c → ((if 0 ≤ cA c12 20 B2 (40 + 6 * h + 3) then F_223 c B2 (nI h) 3 >>= fun r40 => some ((r40 : Int32).toInt64) else some 99) : Option Int64) = some (if cA c12 20 B2 (40 + 6 * h + 3) < 0 then (99 : Int32) else cA c12 20 B2 (40 + 6 * h + 3)).toInt64 := fun {c} qc => by
    rcases cm with e | ⟨y, hy, e⟩
    · rw [e]; rfl
    · have y0 : ¬ nI y < 0 := nI_pos (by omega)
      refine in_pos (by rw [e]; exact nI_pos' (by omega)) (ob_mk (g 3 qc (by decide)) ?_)
      rw [e, if_neg y0]
  have w5 : (cago (cA c12 20 B2) H M x (K x)).toInt64 = (wd (cA c12 20 B2) R D H M K h 5).toInt64 := by
    show _ = (cago (cA c12 20 B2) H M ((cA c12 20 B2) (40 + 6 * h + 0)).toNatClampNeg (K ((cA c12 20 B2) (40 + 6 * h + 0)).toNatClampNeg)).toInt64
    rw [ex, nI_clamp (by omega)]
  have w2 : (nI x).toInt64 = (wd (cA c12 20 B2) R D H M K h 2).toInt64 := by rw [← ex]; rfl
  have w6 : (o99 o1).toInt64 = (wd (cA c12 20 B2) R D H M K h 6).toInt64 := by rw [e1]; rfl
  have w7 : (o99 o2).toInt64 = (wd (cA c12 20 B2) R D H M K h 7).toInt64 := by rw [e2]; rfl
  have w8 : (oF (fun r => cago (cA c12 20 B2) H M r (K r)) o1).toInt64 = (wd (cA c12 20 B2) R D H M K h 8).toInt64 := by rw [e1]; rfl
  have w9 : (oF (fun r => cago (cA c12 20 B2) H M r (K r)) o2).toInt64 = (wd (cA c12 20 B2) R D H M K h 9).toInt64 := by rw [e2]; rfl
  obtain ⟨W, hW⟩ : ∃ W : Nat → Int64, W = fun k => (wd (cA c12 20 B2) R D H M K h k).toInt64 := ⟨_, rfl⟩
  have hw : ∀ k, W k = (wd (cA c12 20 B2) R D H M K h k).toInt64 := fun k => by rw [hW]
  rw [G_249]
  refine rn_e al_0 (rn_p (by rw [hR]; exact nI_le (Nat.le_refl _) (by omega)) ?_)
  refine wst (W := W) (i := 0) (kp_rf _ _) (fun k q => by omega) (by decide) (by rw [hw]; rfl) (fun c hK hv => rn_e (g 1 hK (by decide)) ?_)
  refine wst (W := W) (i := 1) hK hv (by decide) (by rw [hw]; rfl) (fun c hK hv => rn_e (g 0 hK (by decide)) ?_)
  rw [ex]
  refine wst (W := W) (i := 2) hK hv (by decide) (by rw [hw]; exact w2) (fun c hK hv => rn_e (g 2 hK (by decide)) ?_)
  refine wst (W := W) (i := 3) hK hv (by decide) (by rw [hw]; rfl) (fun c hK hv => rn_e (g 3 hK (by decide)) (rn_e (n3 hK) ?_))
  refine wst (W := W) (i := 4) hK hv (by decide) (by rw [hw]; rfl) (fun c hK hv => rn_e (g 0 hK (by decide)) ?_)
  rw [ex]
  refine rn_e (r_230 hS (cc hK) hx) (wst (W := W) (i := 5) hK hv (by decide) (by rw [hw]; exact w5) (fun c hK hv => rn_e (n1 o1 b1) ?_))
  refine wst (W := W) (i := 6) hK hv (by decide) (by rw [hw]; exact w6) (fun c hK hv => rn_e (n1 o2 b2) ?_)
  refine wst (W := W) (i := 7) hK hv (by decide) (by rw [hw]; exact w7) (fun c hK hv => rn_e (n2 o1 hK b1) ?_)
  refine wst (W := W) (i := 8) hK hv (by decide) (by rw [hw]; exact w8) (fun c hK hv => rn_e (n2 o2 hK b2) ?_)
  refine wst (W := W) (i := 9) hK hv (by decide) (by rw [hw]; exact w9) (fun c hK hv => rn_e (g 4 hK (by decide)) ?_)
  refine wst (W := W) (i := 10) hK hv (by decide) (by rw [hw]; rfl) (fun c hK hv => rn_e (ald_ok (i := 4) (by decide) (by decide)) ?_)
  rw [cc hK]
  refine wst (W := W) (i := 11) hK hv (by decide) (by rw [hw]; rfl) (fun c hK hv => rn_r ⟨hK, fun k q => ?_⟩)
  rw [hv k q, hw]
theorem gl_249 {h : Nat} (hh : h < H) (hS : SR c1 c8 st (cA c12 20 B2) R D H Q M L E K) : ∀ m i, i + m = R → Rn (G_249 c12 B2 0 [nI h, ob (bf (cg (cA c12 20 B2) H D h) (fun r => cago (cA c12 20 B2) H M r (K r)) false i), ob (bf (cg (cA c12 20 B2) H D h) (fun r => cago (cA c12 20 B2) H M r (K r)) true i), nI i] [] []) (fun r => Kp [19] c12 r ∧ ∀ k, k < 12 → cB r 19 B2 k = (wd (cA c12 20 B2) R D H M K h k).toInt64)
  | 0, i, hi => by
    have : i = R := by omega
    subst this
    exact tail_249 hh hS rfl rfl
  | m + 1, i, hi => by
    have ih := gl_249 hh hS m (i + 1) (by omega)
    obtain ⟨⟨-, hR, r6⟩, ⟨-, hD, d10⟩, ⟨-, hH, h6⟩, -, -, n14, n15⟩ := id hS.1.1
    rw [G_249]
    refine rn_e al_0 (rn_n (by rw [hR]; exact nI_ge (by omega) (by omega)) (rn_e (f_241 (by omega) (by omega) hH h6 hD d10) ?_))
    by_cases q : cg (cA c12 20 B2) H D h i = 0
    · refine rn_p q ?_
      rw [nI_1]
      rw [bf_p q, bf_p q] at ih
      exact ih
    · refine rn_n q ?_
      have s1 : ((if ob (bf (cg (cA c12 20 B2) H D h) (fun r => cago (cA c12 20 B2) H M r (K r)) false i) < 0 then some (nI i) else F_230 c12 B2 (nI i) >>= fun r52 => F_230 c12 B2 (ob (bf (cg (cA c12 20 B2) H D h) (fun r => cago (cA c12 20 B2) H M r (K r)) false i)) >>= fun r53 => if r53 ≤ r52 then some (ob (bf (cg (cA c12 20 B2) H D h) (fun r => cago (cA c12 20 B2) H M r (K r)) false i)) else some (nI i)) : Option Int32) = some (ob (bf (cg (cA c12 20 B2) H D h) (fun r => cago (cA c12 20 B2) H M r (K r)) false (i + 1))) := by
        cases eb : bf (cg (cA c12 20 B2) H D h) (fun r => cago (cA c12 20 B2) H M r (K r)) false i with
        | none => rw [bf_0 q eb]; exact in_pos (by decide) rfl
        | some b =>
          have hb := bf_lt eb
          refine in_neg (nI_pos (by omega)) (ob_mk (r_230 hS rfl (by omega)) (ob_mk (r_230 hS rfl (show b < R by omega)) ?_))
          by_cases w : cago (cA c12 20 B2) H M i (K i) < cago (cA c12 20 B2) H M b (K b)
          · rw [if_neg (Int32.not_le.mpr w)]
            rw [bf_1 q eb, if_pos (show (if false = true then _ else _) from w)]; rfl
          · rw [if_pos (Int32.not_lt.mp w)]
            rw [bf_1 q eb, if_neg (show ¬ (if false = true then _ else _) from w)]
      have s2 : ((if ob (bf (cg (cA c12 20 B2) H D h) (fun r => cago (cA c12 20 B2) H M r (K r)) true i) < 0 then some (nI i) else F_230 c12 B2 (nI i) >>= fun r48 => F_230 c12 B2 (ob (bf (cg (cA c12 20 B2) H D h) (fun r => cago (cA c12 20 B2) H M r (K r)) true i)) >>= fun r49 => if r48 ≤ r49 then some (ob (bf (cg (cA c12 20 B2) H D h) (fun r => cago (cA c12 20 B2) H M r (K r)) true i)) else some (nI i)) : Option Int32) = some (ob (bf (cg (cA c12 20 B2) H D h) (fun r => cago (cA c12 20 B2) H M r (K r)) true (i + 1))) := by
        cases eb : bf (cg (cA c12 20 B2) H D h) (fun r => cago (cA c12 20 B2) H M r (K r)) true i with
        | none => rw [bf_0 q eb]; exact in_pos (by decide) rfl
        | some b =>
          have hb := bf_lt eb
          refine in_neg (nI_pos (by omega)) (ob_mk (r_230 hS rfl (by omega)) (ob_mk (r_230 hS rfl (show b < R by omega)) ?_))
          by_cases w : cago (cA c12 20 B2) H M b (K b) < cago (cA c12 20 B2) H M i (K i)
          · rw [if_neg (Int32.not_le.mpr w)]
            rw [bf_1 q eb, if_pos (show (if true = true then _ else _) from w)]; rfl
          · rw [if_pos (Int32.not_lt.mp w)]
            rw [bf_1 q eb, if_neg (show ¬ (if true = true then _ else _) from w)]
      refine rn_e s1 (rn_e s2 ?_)
      rw [nI_1]
      exact ih
theorem f_249 {h : Nat} (hh : h < H) (hS : SR c1 c8 st (cA c12 20 B2) R D H Q M L E K) : Rn (F_249 c12 B2 (nI h)) (fun r => Kp [19] c12 r ∧ ∀ k, k < 12 → cB r 19 B2 k = (wd (cA c12 20 B2) R D H M K h k).toInt64) := by
  unfold F_249
  exact gl_249 hh hS R 0 (by omega)
end Words2
