/-! ===== words of rules: both alike ===== -/
def ob : Option Nat → Int32
  | none => -1
  | some b => nI b
/-- of the rooms to which one can go the one with least, most felt -/
def bf (can fe : Nat → Int32) (mx : Bool) : Nat → Option Nat
  | 0 => none
  | n + 1 => if can n = 0 then bf can fe mx n else match bf can fe mx n with
    | none => some n
    | some b => if (if mx then fe b < fe n else fe n < fe b) then some n else some b
theorem bf_lt {can fe : Nat → Int32} {mx : Bool} : ∀ {n b : Nat}, bf can fe mx n = some b → b < n
  | 0, b, h => by cases h
  | n + 1, b, h => by
    unfold bf at h
    split at h
    · have := bf_lt h; omega
    · cases e : bf can fe mx n with
      | none => rw [e] at h; cases h; omega
      | some c =>
        rw [e] at h
        have := bf_lt e
        dsimp only at h
        by_cases w : (if mx then fe c < fe n else fe n < fe c)
        · rw [if_pos w] at h; cases h; omega
        · rw [if_neg w] at h; cases h; omega
theorem ob_neg {o : Option Nat} (h : ∀ b, o = some b → b < 2 ^ 31) : (ob o = -1 ↔ o = none) ∧ (ob o < 0 ↔ o = none) := by
  cases o with
  | none => exact ⟨⟨fun _ => rfl, fun _ => rfl⟩, ⟨fun _ => rfl, fun _ => by decide⟩⟩
  | some b =>
    have hb := h b rfl
    have n0 : ¬ nI b < 0 := nI_pos hb
    refine ⟨⟨fun e => ?_, fun e => by cases e⟩, ⟨fun e => absurd e n0, fun e => by cases e⟩⟩
    have e' : nI b = -1 := e
    rw [e'] at n0
    exact absurd (by decide) n0
def o99 : Option Nat → Int32
  | none => 99
  | some b => nI b
def oF (fe : Nat → Int32) : Option Nat → Int32
  | none => 0
  | some b => fe b
def wd (S : Nat → Int32) (R D H M : Nat) (K : Nat → Nat) (h : Nat) : Nat → Int32
  | 0 => nI h
  | 1 => S (40 + 6 * h + 1)
  | 2 => S (40 + 6 * h + 0)
  | 3 => S (40 + 6 * h + 2)
  | 4 => if S (40 + 6 * h + 3) < 0 then 99 else S (40 + 6 * h + 3)
  | 5 => let x := (S (40 + 6 * h + 0)).toNatClampNeg; cago S H M x (K x)
  | 6 => o99 (bf (cg S H D h) (fun r => cago S H M r (K r)) false R)
  | 7 => o99 (bf (cg S H D h) (fun r => cago S H M r (K r)) true R)
  | 8 => oF (fun r => cago S H M r (K r)) (bf (cg S H D h) (fun r => cago S H M r (K r)) false R)
  | 9 => oF (fun r => cago S H M r (K r)) (bf (cg S H D h) (fun r => cago S H M r (K r)) true R)
  | 10 => S (40 + 6 * h + 4)
  | _ => S 4
section Words
variable {c1 c8 : Cl} {st : Nat} {S : Nat → Int32} {R D H Q M L E : Nat} {K : Nat → Nat}
theorem fe_bd (hS : SR c1 c8 st S R D H Q M L E K) {r : Nat} (hr : r < R) : ∃ v, v ≤ 100 ∧ cago S H M r (K r) = nI v := by
  have k5 := (hS.c.2.2.2 r hr).2.2
  unfold cago
  split
  · obtain ⟨v, hv, ev⟩ := cnt_bd hS.1 r
    exact ⟨v, by omega, ev⟩
  · split
    · exact (hS.2.2 (M - K r) r (by omega) (by omega) hr).2
    · obtain ⟨hn, -, -, -, -, -, he, hz, -⟩ := id hS.1
      have h6 := hn.2.2.1.2.2
      obtain ⟨v, hv, ev⟩ := su_bd (f := cf1 S (nI r)) (b := 4) (n := H) (fun i q => by
        obtain ⟨-, ⟨y, -, y4, ey⟩, -⟩ := hz.2.1 i q
        unfold cf1
        split
        · exact ⟨y, y4, ey⟩
        · exact ⟨0, by omega, rfl⟩)
      exact ⟨v, by omega, ev⟩
theorem ng_le {a b : Nat} (ha : a ≤ 100) (hb : b ≤ 100) : (-nI a ≤ -nI b) ↔ ¬ nI a < nI b := by
  have key : ∀ a, a ≤ 100 → ∀ b, b ≤ 100 → ((-nI a ≤ -nI b) ↔ ¬ nI a < nI b) := by
    have : ∀ a : Fin 101, ∀ b : Fin 101, ((-nI a.val ≤ -nI b.val) ↔ ¬ nI a.val < nI b.val) := by decide +kernel
    exact fun a ha b hb => this ⟨a, by omega⟩ ⟨b, by omega⟩
  exact key a ha b hb
/-- what the class keeps beside the best room -/
def bv (fe : Nat → Int32) (mx : Bool) : Option Nat → Int32
  | none => 0
  | some b => if mx then -fe b else fe b
theorem gl_103 {h : Nat} {mx : Bool} (hh : h < H) (hS : SR c1 c8 st S R D H Q M L E K) : ∀ m i, i + m = R → G_103 c1 c8 st 0 [nI h, (if mx then 1 else 0), ob (bf (cg S H D h) (fun r => cago S H M r (K r)) mx i), bv (fun r => cago S H M r (K r)) mx (bf (cg S H D h) (fun r => cago S H M r (K r)) mx i), nI i] [] [] = some (ob (bf (cg S H D h) (fun r => cago S H M r (K r)) mx R))
  | 0, i, hi => by
    have : i = R := by omega
    subst this
    obtain ⟨⟨h1, -, r6⟩, -⟩ := hS.1.1
    rw [G_103]
    rw [h1, if_pos (nI_le (Nat.le_refl _) (by omega))]
  | m + 1, i, hi => by
    have ih := gl_103 (mx := mx) hh hS m (i + 1) (by omega)
    obtain ⟨⟨h1, -, r6⟩, -⟩ := hS.1.1
    rw [G_103]
    rw [h1]
    refine in_neg (nI_ge (by omega) (by omega)) (ob_mk (f_91 hh (by omega) hS) ?_)
    by_cases q : cg S H D h i = 0
    · refine in_pos q ?_
      rw [nI_1]
      have e : bf (cg S H D h) (fun r => cago S H M r (K r)) mx (i + 1) = bf (cg S H D h) (fun r => cago S H M r (K r)) mx i := by
        conv => lhs; unfold bf
        rw [if_pos q]
      rw [e] at ih
      exact ih
    · refine in_neg q ?_
      have f96 := f_96 (show i < R by omega) hS.1.1 hS.c
      refine ob_mk (v := (if mx then -cago S H M i (K i) else cago S H M i (K i))) ?_ ?_
      · cases mx
        · exact in_pos rfl (ob_mk f96 rfl)
        · exact in_neg (by decide) (ob_mk f96 rfl)
      · have e : bf (cg S H D h) (fun r => cago S H M r (K r)) mx (i + 1) = (match bf (cg S H D h) (fun r => cago S H M r (K r)) mx i with
          | none => some i
          | some b => if (if mx then cago S H M b (K b) < cago S H M i (K i) else cago S H M i (K i) < cago S H M b (K b)) then some i else some b) := by
          conv => lhs; unfold bf
          rw [if_neg q]
        rw [nI_1]
        cases eb : bf (cg S H D h) (fun r => cago S H M r (K r)) mx i with
        | none =>
          rw [eb] at e
          dsimp only at e
          refine ob_mk (v := (nI i, (if mx then -cago S H M i (K i) else cago S H M i (K i)))) (in_pos rfl rfl) ?_
          rw [e] at ih
          exact ih
        | some b =>
          rw [eb] at e
          dsimp only at e
          have hb := bf_lt eb
          have nb : ¬ nI b = -1 := fun z => by have := nI_pos (n := b) (by omega); rw [z] at this; exact this (by decide)
          obtain ⟨v, hv, ev⟩ := fe_bd hS (show i < R by omega)
          obtain ⟨u, hu, eu⟩ := fe_bd hS (show b < R by omega)
          have cc : (bv (fun r => cago S H M r (K r)) mx (some b) ≤ (if mx then -cago S H M i (K i) else cago S H M i (K i))) ↔ ¬ (if mx then cago S H M b (K b) < cago S H M i (K i) else cago S H M i (K i) < cago S H M b (K b)) := by
            unfold bv
            rw [ev]
            dsimp only
            rw [eu]
            cases mx
            · exact (Int32.not_lt).symm
            · exact ng_le hu hv
          by_cases w : (if mx then cago S H M b (K b) < cago S H M i (K i) else cago S H M i (K i) < cago S H M b (K b))
          · refine ob_mk (v := (nI i, (if mx then -cago S H M i (K i) else cago S H M i (K i)))) (in_neg nb (in_neg (fun z => (cc.mp z) w) rfl)) ?_
            rw [if_pos w] at e
            rw [e] at ih
            exact ih
          · refine ob_mk (v := (nI b, bv (fun r => cago S H M r (K r)) mx (some b))) (in_neg nb (in_pos (cc.mpr w) rfl)) ?_
            rw [if_neg w] at e
            rw [e] at ih
            exact ih
theorem f_103 {h : Nat} {mx : Bool} (hh : h < H) (hS : SR c1 c8 st S R D H Q M L E K) : F_103 c1 c8 st (nI h) (if mx then 1 else 0) = some (ob (bf (cg S H D h) (fun r => cago S H M r (K r)) mx R)) := by
  unfold F_103
  exact gl_103 hh hS R 0 (by omega)
theorem f_104 {o : Option Nat} (h : ∀ b, o = some b → b < 2 ^ 31) : F_104 st (ob o) = some (o99 o) := by
  unfold F_104
  cases o with
  | none => exact ob_mk (in_pos rfl rfl) rfl
  | some b => exact ob_mk (in_neg (fun z => by have := ((ob_neg h).1).mp z; cases this) rfl) rfl
theorem f_105 {o : Option Nat} (h : ∀ b, o = some b → b < R) (hS : SR c1 c8 st S R D H Q M L E K) : F_105 c1 c8 st (ob o) = some (oF (fun r => cago S H M r (K r)) o) := by
  have r6 := hS.1.1.1.2.2
  unfold F_105
  cases o with
  | none => exact ob_mk (in_pos rfl rfl) rfl
  | some b => exact ob_mk (in_neg (fun z => by have := ((ob_neg (fun b q => by have := h b q; omega)).1).mp z; cases this) (ob_mk (f_96 (h b rfl) hS.1.1 hS.c) rfl)) rfl
/-- a word of the class -/
theorem f_106 {h k : Nat} (hh : h < H) (hk : k < 12) (hS : SR c1 c8 st S R D H Q M L E K) : F_106 c1 c8 st (nI k) (nI h) = some (wd S R D H M K h k) := by
  obtain ⟨⟨hn, hs0, hs, hm, hl, hd, he, hz, hf⟩, hc, hp⟩ := id hS
  have r6 := hn.1.2.2
  have h6 := hn.2.2.1.2.2
  obtain ⟨a0, a1, a2, a3, a4, a5⟩ := hs0 h hh
  obtain ⟨⟨x, hx, ex⟩, -, -, cm⟩ := hz.2.1 h hh
  have blt : ∀ mx b, bf (cg S H D h) (fun r => cago S H M r (K r)) mx R = some b → b < R := fun mx b q => bf_lt q
  have blt2 : ∀ mx b, bf (cg S H D h) (fun r => cago S H M r (K r)) mx R = some b → b < 2 ^ 31 := fun mx b q => by have := bf_lt q; omega
  unfold F_106
  rcases k with _ | _ | _ | _ | _ | _ | _ | _ | _ | _ | _ | _ | k
  · exact in_pos rfl rfl
  · exact in_neg (by decide) (in_pos rfl (ob_mk (ald_ok (by omega) (by decide)) (by rw [a1]; rfl)))
  · exact in_neg (by decide) (in_neg (by decide) (in_pos rfl (ob_mk (ald_ok (by omega) (by decide)) (by rw [a0]; rfl))))
  · exact in_neg (by decide) (in_neg (by decide) (in_neg (by decide) (in_pos rfl (ob_mk (ald_ok (by omega) (by decide)) (by rw [a2]; rfl)))))
  · refine in_neg (by decide) (in_neg (by decide) (in_neg (by decide) (in_neg (by decide) (in_pos rfl (ob_mk (ald_ok (by omega) (by decide)) ?_)))))
    rw [a3]
    show _ = some (if S (40 + 6 * h + 3) < 0 then 99 else S (40 + 6 * h + 3))
    unfold F_104
    rcases cm with e | ⟨y, hy, e⟩
    · rw [e]; rfl
    · rw [e, if_neg (nI_pos (by omega))]
      exact ob_mk (ob_mk (in_neg (fun z => by have := nI_pos (n := y) (by omega); rw [z] at this; exact this (by decide)) rfl) rfl) rfl
  · refine in_neg (by decide) (in_neg (by decide) (in_neg (by decide) (in_neg (by decide) (in_neg (by decide) (in_pos rfl (ob_mk (v := nI x) ((ald_ok (by omega) (by decide)).trans (by rw [a0, ex])) (ob_mk (f_96 hx hn hS.c) ?_)))))))
    show _ = some (cago S H M (S (40 + 6 * h + 0)).toNatClampNeg (K (S (40 + 6 * h + 0)).toNatClampNeg))
    rw [ex, nI_clamp (by omega)]
  · exact in_neg (by decide) (in_neg (by decide) (in_neg (by decide) (in_neg (by decide) (in_neg (by decide) (in_neg (by decide) (in_pos rfl (ob_mk (f_103 (mx := false) hh hS) (ob_mk (f_104 (blt2 _)) rfl))))))))
  · exact in_neg (by decide) (in_neg (by decide) (in_neg (by decide) (in_neg (by decide) (in_neg (by decide) (in_neg (by decide) (in_neg (by decide) (in_pos rfl (ob_mk (f_103 (mx := true) hh hS) (ob_mk (f_104 (blt2 _)) rfl)))))))))
  · exact in_neg (by decide) (in_neg (by decide) (in_neg (by decide) (in_neg (by decide) (in_neg (by decide) (in_neg (by decide) (in_neg (by decide) (in_neg (by decide) (in_pos rfl (ob_mk (f_103 (mx := false) hh hS) (ob_mk (f_105 (blt _) hS) rfl))))))))))
  · exact in_neg (by decide) (in_neg (by decide) (in_neg (by decide) (in_neg (by decide) (in_neg (by decide) (in_neg (by decide) (in_neg (by decide) (in_neg (by decide) (in_neg (by decide) (in_pos rfl (ob_mk (f_103 (mx := true) hh hS) (ob_mk (f_105 (blt _) hS) rfl)))))))))))
  · exact in_neg (by decide) (in_neg (by decide) (in_neg (by decide) (in_neg (by decide) (in_neg (by decide) (in_neg (by decide) (in_neg (by decide) (in_neg (by decide) (in_neg (by decide) (in_neg (by decide) (in_pos rfl (ob_mk (ald_ok (by omega) (by decide)) (by rw [a4]; rfl))))))))))))
  · refine in_neg (by decide) (in_neg (by decide) (in_neg (by decide) (in_neg (by decide) (in_neg (by decide) (in_neg (by decide) (in_neg (by decide) (in_neg (by decide) (in_neg (by decide) (in_neg (by decide) (in_neg (by decide) ?_))))))))))
    show some (cI c8 1 st) = some (S 4)
    rw [hn.2.2.2.2.1, hn.2.2.2.2.2.1]
  · omega
end Words
