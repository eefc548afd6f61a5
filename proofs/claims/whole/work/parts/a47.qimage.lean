/-! ===== image: both alike ===== -/
section QImage
variable {c1 c8 c10 c11 c12 : Cl} {d : Ad} {B B2 w : Nat} {A Ak : Nat → Nat} {X R D H Q L k wk : Nat} {K : Nat → Nat}
theorem pt_in {V f : Nat → Int32} {s i j : Nat} (h : s ≤ j) (h2 : j < s + i) : pt V s f i j = f (j - s) := by unfold pt; rw [if_pos ⟨h, h2⟩]
theorem pt_out {V f : Nat → Int32} {s i j : Nat} (h : j < s ∨ s + i ≤ j) : pt V s f i j = V j := by unfold pt; rw [if_neg (fun z => by omega)]
/-- rows of other images stay -/
def Oim (B2 k : Nat) (c c' : Cl) : Prop := ∀ j, j < 4 → j ≠ k → (∀ i, i < 221 → cA c' 47 B2 (221 * j + i) = cA c 47 B2 (221 * j + i)) ∧ (∀ i, i < 3680 → cA c' 48 B2 (3680 * j + i) = cA c 48 B2 (3680 * j + i)) ∧ cA c' 49 B2 j = cA c 49 B2 j ∧ cA c' 50 B2 j = cA c 50 B2 j ∧ cA c' 51 B2 j = cA c 51 B2 j
/-- the copy itself -/
theorem im_copy (hw : cR c11 7 B = w) (hk : k < 4) (inj : ∀ i j, i ≤ 20 → j ≤ 20 → Ak i = Ak j → i = j) (ap : ∀ i j, i ≤ 20 → j ≤ 20 → Ak i ≠ A j) (nw : w ≠ wk) (h : WM c1 c8 c10 c12 B2 w A X R D H Q L K) (hq : cQ c11 8 B k = some wk) (g0 : cR c10 0 wk = Ak 0) (g1 : ∀ j, j < 20 → cQ c10 1 wk j = some (Ak (1 + j))) (g2 : ∀ i, i ≤ 20 → cR c8 0 (Ak i) < X) : ∃ rx rm, G_154 c8 c10 c11 d B 0 [nI k] [] [] = some rx ∧ F_297 c12 B2 (nI k) = some rm ∧ rx.1 = rm.1 ∧ (∀ a, (∀ i, i ≤ 20 → a ≠ Ak i) → Sm8 c8 a rx.2.1 a) ∧ Oth wk c10 rx.2.2.1 ∧ rx.2.2.2.1 = c11 ∧ rx.2.2.2.2 = d ∧ Kp [47, 48, 49, 50, 51] c12 rm.2 ∧ Oim B2 k c12 rm.2 ∧ cA rm.2 51 B2 k = 1 ∧ WM c1 rx.2.1 rx.2.2.1 rm.2 B2 w A X R D H Q L K ∧ IMr c1 rx.2.1 rx.2.2.1 rm.2 B2 k wk Ak X := by
  obtain ⟨U, hU, hW⟩ := id h
  have u20 : U ≤ 20 := by obtain ⟨-, -, -, -, ⟨o, -, -, -, z, -⟩, -⟩ := hW; exact z
  obtain ⟨rx, x1, x2, x3, x4⟩ := cpw_ok (a0 := wk) (a1 := w) (A0 := Ak) (A1 := A) inj ap nw g0 g1 g2 hW
  obtain ⟨rm, m1, m2, m3, m4, m5, m6, m7, m8⟩ := f_297 (c := c12) (a := B2) hk hU u20
  have lq : ldq (cQ c11 8 B) 4 (nI k) = some (some wk) := (ldq_ok hk (by decide)).trans (by rw [hq])
  have hWr : WR c1 rx.1 rx.2 w A (cA c12 20 B2) (cA c12 22 B2) U (cI c12 21 B2) X R D H Q L K := WR_c (fun i hi => x3 (A i) (fun j hj z => ap j i hj hi z.symm)) (fun ho _ => Sm1.rf _ _) (oth_sw x4 nw) (fun _ _ => rfl) (fun _ _ => rfl) (Nat.le_refl _) hW
  have hx : G_154 c8 c10 c11 d B 0 [nI k] [] [] = some (cI rx.1 1 (cR rx.2 0 w), rx.1, rx.2, c11, d) := by
    unfold G_154
    show (ldq (cQ c11 8 B) 4 (nI k) >>= fun v19 => v19 >>= fun o21 => F_118 c8 c10 o21 (cR c11 7 B) >>= fun r23 => some (cI r23.1 1 (cR r23.2 0 (cR c11 7 B)), r23.1, r23.2, c11, d)) = _
    rw [hw]
    exact ob_mk lq (ob_mk (v := wk) rfl (ob_mk x1 rfl))
  refine ⟨_, rm, hx, m1, ?_, x3, x4, rfl, rfl, m3, fun j hj hne => ⟨fun i hi => ?_, fun i hi => ?_, ?_, ?_, ?_⟩, by rw [m4, pk_us], ⟨U, ?_, ?_⟩, U, R, D, H, Q, L, K, by rw [m5, pk_us], ?_⟩
  · obtain ⟨b1, -, -, ⟨M, E, -, s⟩, -⟩ := hWr
    show cI rx.1 1 (cR rx.2 0 w) = rm.1
    rw [b1, m2, s.1.1.2.2.2.2.1, s.1.1.2.2.2.2.2.1]
  · rw [m7, pt_out (by omega)]
  · rw [m8, pt_out (by omega)]
  · rw [m5, pk_un hne]
  · rw [m6, pk_un hne]
  · rw [m4, pk_un hne]
  · rw [(m3 23 (by decide)).1]; exact hU
  · rw [(m3 20 (by decide)).2.2.2.1, (m3 22 (by decide)).2.2.2.1, (m3 21 (by decide)).1]; exact hWr
  · rw [m6, pk_us]
    refine WR_c (fun i _ => Sm8.rf _ _) (fun ho _ => Sm1.rf _ _) (Sw.rf _ _) (fun j hj => ?_) (fun j hj => ?_) (Nat.le_refl _) x2
    · rw [m7, pt_in (by omega) (by omega), Nat.add_sub_cancel_left]
    · rw [m8, pt_in (by omega) (by omega), Nat.add_sub_cancel_left]
/-- where a new world's states lie -/
def nA (X i : Nat) : Nat := if i = 0 then X + 5 else X + 16 + 11 * (i - 1)
theorem q_image (hw : cR c11 7 B = w) (hk : k < 4) (h : WM c1 c8 c10 c12 B2 w A X R D H Q L K) (hA : ∀ i, i ≤ 20 → A i < aX d) (hwX : w < aX d) (hold : ∀ wk, cQ c11 8 B k = some wk → w ≠ wk ∧ (∀ i j, i ≤ 20 → j ≤ 20 → Ak i = Ak j → i = j) ∧ (∀ i j, i ≤ 20 → j ≤ 20 → Ak i ≠ A j) ∧ IMr c1 c8 c10 c12 B2 k wk Ak X) : ∃ rx rm, F_154 c8 c10 c11 d B (nI k) = some rx ∧ F_297 c12 B2 (nI k) = some rm ∧ rx.1 = rm.1 ∧ Adm d rx.2.2.2.2 ∧ (Kp [47, 48, 49, 50, 51] c12 rm.2 ∧ Oim B2 k c12 rm.2 ∧ cA rm.2 51 B2 k = 1) ∧ WM c1 rx.2.1 rx.2.2.1 rm.2 B2 w A X R D H Q L K ∧ ((∃ wk, cQ c11 8 B k = some wk ∧ rx.2.2.2.1 = c11 ∧ rx.2.2.2.2 = d ∧ (∀ a, (∀ i, i ≤ 20 → a ≠ Ak i) → Sm8 c8 a rx.2.1 a) ∧ Oth wk c10 rx.2.2.1 ∧ IMr c1 rx.2.1 rx.2.2.1 rm.2 B2 k wk Ak X) ∨ (cQ c11 8 B k = none ∧ rx.2.2.2.1 = sQ c11 8 B (va_up (cQ c11 8 B) k (some (aX d))) ∧ aX rx.2.2.2.2 = aX d + 236 ∧ aS rx.2.2.2.2 = aS d + 2753 ∧ (∀ a, a < aX d → Sm8 c8 a rx.2.1 a) ∧ (∀ a, a < aX d → Sw c10 rx.2.2.1 a) ∧ IMr c1 rx.2.1 rx.2.2.1 rm.2 B2 k (aX d) (nA (aX d)) X)) := by
  have n0 : ¬ nI k < 0 := nI_pos (by omega)
  have n4 : nI k < (4 : Int32) := show nI k < nI 4 from nI_lt hk (by decide)
  cases hq : cQ c11 8 B k with
  | some wk =>
    obtain ⟨o1, o2, o3, o4⟩ := hold wk hq
    obtain ⟨U, R', D', H', Q', L', K', i1, i2⟩ := id o4
    have lq : ldq (cQ c11 8 B) 4 (nI k) = some (some wk) := (ldq_ok hk (by decide)).trans (by rw [hq])
    obtain ⟨rx, rm, x1, x2, x3, x4, x5, x6, x7, x8, x9, x10, x11, x12⟩ := im_copy (d := d) hw hk o2 o3 o1 h hq i2.1 i2.2.1 i2.2.2.1
    refine ⟨rx, rm, ?_, x2, x3, by rw [x7]; exact adm_rf _, ⟨x8, x9, x10⟩, x11, Or.inl ⟨wk, rfl, x6, x7, x4, x5, x12⟩⟩
    unfold F_154
    exact in_neg n0 (in_pos n4 (ob_mk lq (in_neg (fun z => by cases z) x1)))
  | none =>
    obtain ⟨U, hU, hW⟩ := id h
    obtain ⟨a1, a2, a3, -⟩ := id hW
    have lq : ldq (cQ c11 8 B) 4 (nI k) = some none := (ldq_ok hk (by decide)).trans (by rw [hq])
    obtain ⟨r, f1, f2, f3, f4, f5⟩ := fw_116 (c8 := c8) (c10 := c10) (d := adr d 10) (a0 := aX d) (a1 := cR c8 0 (A 0))
    have fA := fa_116 f1
    have ax1 : aX (adr d 10) = aX d + 1 := rfl
    have as1 : aS (adr d 10) = aS d + 9 := rfl
    rw [ax1] at f2 f4 f5
    rw [as1] at f3
    obtain ⟨wo1, wo2, wo3⟩ := wQ_o (c10 := sR (zat c10 (aX d)) 0 (aX d) (aX d + 1 + 4)) (a0 := aX d) (B := aX d + 1 + 15) 20
    rw [← f5] at wo1 wo2 wo3
    have old8 : ∀ a, a < aX d → Sm8 c8 a r.1 a := fun a ha => by
      rw [f4]
      exact Sm8.tr (oth_sm (nC8_o c8 (aX d + 1 + 4) (cR c8 0 (A 0))) (by omega)) (wS_o (c8 := nC_8 c8 (aX d + 1 + 4) (cR c8 0 (A 0))) 20 a (fun i hi => by omega)).1
    have oz : Oth (aX d) c10 r.2.1 := oth_tr (oth_tr (fun k a n => zat_o n k) oth_R) wo1
    have old10 : ∀ a, a < aX d → Sw c10 r.2.1 a := fun a ha => oth_sw oz (by omega)
    have h' : WM c1 r.1 r.2.1 c12 B2 w A X R D H Q L K := ⟨U, hU, WR_c (fun i hi => old8 _ (hA i hi)) (fun ho _ => Sm1.rf _ _) (old10 w hwX) (fun _ _ => rfl) (fun _ _ => rfl) (Nat.le_refl _) hW⟩
    obtain ⟨c11b, hc⟩ : ∃ c11b, c11b = sQ c11 8 B (va_up (cQ c11 8 B) k (some (aX d))) := ⟨_, rfl⟩
    have cq : cQ c11b 8 B k = some (aX d) := by
      rw [hc, cQ_sQ, if_pos ⟨rfl, rfl⟩]
      unfold va_up; rw [if_pos rfl]
    have nai : ∀ i, nA (aX d) (1 + i) = aX d + 1 + 15 + 11 * i := fun i => by unfold nA; rw [if_neg (by omega), show 1 + i - 1 = i by omega]
    have na0 : nA (aX d) 0 = aX d + 1 + 4 := rfl
    have nage : ∀ i, aX d ≤ nA (aX d) i := fun i => by unfold nA; split <;> omega
    have g2 : ∀ i, i ≤ 20 → cR r.1 0 (nA (aX d) i) < X := fun i hi => by
      have hX := a3 0 (Nat.zero_le _)
      rw [f4]
      cases i with
      | zero =>
        rw [na0, (wS_o (c8 := nC_8 c8 (aX d + 1 + 4) (cR c8 0 (A 0))) 20 (aX d + 1 + 4) (fun i hi => by omega)).2]
        show cR (sR (zat c8 (aX d + 1 + 4)) 0 (aX d + 1 + 4) (cR c8 0 (A 0))) 0 (aX d + 1 + 4) < X
        rw [cR_sR, if_pos ⟨rfl, rfl⟩]; exact hX
      | succ i =>
        rw [Nat.add_comm i 1, nai, wS_r 20 i (by omega)]; exact hX
    obtain ⟨rx, rm, x1, x2, x3, x4, x5, x6, x7, x8, x9, x10, x11, x12⟩ := im_copy (c11 := c11b) (Ak := nA (aX d)) (wk := aX d) (d := r.2.2) (by rw [hc]; exact hw) hk (fun i j _ _ e => by unfold nA at e; split at e <;> split at e <;> omega) (fun i j _ hj => by have := hA j hj; have := nage i; omega) (by omega) h' cq (by
      rw [(wo2 0 (by decide)).2.2.1, cR_sR, if_pos ⟨rfl, rfl⟩]; rfl) (fun j hj => by rw [wo3 j hj, nai]) g2
    refine ⟨rx, rm, ?_, x2, x3, by rw [x7]; exact adm_tr (adm_r d 10) fA, ⟨x8, x9, x10⟩, x11, Or.inr ⟨rfl, by rw [x6, hc], by rw [x7, f2], by rw [x7, f3], fun a ha => Sm8.tr (old8 a ha) (x4 a (fun i _ => by have := nage i; omega)), fun a ha => ?_, x12⟩⟩
    · unfold F_154
      rw [hw, a1]
      refine in_neg n0 (in_pos n4 (ob_mk lq (in_pos rfl (ob_mk f1 (ob_mk (v := c11b) ?_ x1)))))
      unfold asq
      rw [nI_clamp (by omega), if_neg, hc]
      rintro (z | z)
      · exact absurd z n0
      · omega
    · exact oth_sw (oth_tr oz x5) (by omega)
end QImage
