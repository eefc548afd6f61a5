/-! ===== image, back ===== -/
theorem adm_8 (d : Ad) (a a1 : Nat) : Adm d (nD_8 d a a1) := by
  unfold nD_8
  refine adm_tr ?_ (adm_o _ _ _ _ _)
  refine adm_tr ?_ (adm_f _ _ _)
  refine adm_tr ?_ (adm_f _ _ _)
  refine adm_tr ?_ (adm_z _ _ _)
  refine adm_tr ?_ (adm_f _ _ _)
  refine adm_tr ?_ (adm_z _ _ _)
  refine adm_tr ?_ (adm_f _ _ _)
  refine adm_tr ?_ (adm_z _ _ _)
  refine adm_tr ?_ (adm_f _ _ _)
  refine adm_tr ?_ (adm_z _ _ _)
  refine adm_tr ?_ (adm_f _ _ _)
  refine adm_tr ?_ (adm_z _ _ _)
  refine adm_tr ?_ (adm_f _ _ _)
  refine adm_tr ?_ (adm_z _ _ _)
  refine adm_tr ?_ (adm_f _ _ _)
  refine adm_tr ?_ (adm_z _ _ _)
  refine adm_tr ?_ (adm_f _ _ _)
  refine adm_tr ?_ (adm_z _ _ _)
  refine adm_tr ?_ (adm_f _ _ _)
  refine adm_tr ?_ (adm_z _ _ _)
  refine adm_tr ?_ (adm_f _ _ _)
  exact adm_z _ _ _
theorem adm_10 (d : Ad) (a0 a1 : Nat) : Adm d (pD_10 d a0 a1) := by
  unfold pD_10
  refine adm_tr ?_ (adm_o _ _ _ _ _)
  refine adm_tr ?_ (adm_f _ _ _)
  refine adm_tr ?_ (adm_8 _ _ _)
  refine adm_tr ?_ (adm_r _ _)
  refine adm_tr ?_ (adm_f _ _ _)
  refine adm_tr ?_ (adm_z _ _ _)
  refine adm_tr ?_ (adm_f _ _ _)
  refine adm_tr ?_ (adm_z _ _ _)
  refine adm_tr ?_ (adm_f _ _ _)
  refine adm_tr ?_ (adm_z _ _ _)
  refine adm_tr ?_ (adm_f _ _ _)
  exact adm_z _ _ _
/-- the world's constructor, and that lengths stay -/
theorem ga_116 {c8 c10 : Cl} {a0 a1 B : Nat} : ∀ (m n : Nat), n + m = 20 → ∀ d : Ad, aX d = B + 11 * n → ∃ e, G_116 a0 a1 0 [Int32.ofNat n] [] [] (wS c8 B a1 n) (wQ c10 a0 B n) d = some (wS c8 B a1 20, wQ c10 a0 B 20, e) ∧ Adm d e
  | 0, n, hn, d, hX => by
    have : n = 20 := by omega
    subst this
    refine ⟨d, ?_, adm_rf _⟩
    rw [G_116]
    rw [if_pos (by decide)]
  | m + 1, n, hn, d, hX => by
    obtain ⟨h1, h2, h3, h4⟩ := i20 n (by omega)
    have x1 := nD_8_x (adr d 8) (aX d) a1
    have x2 := ox_r d 8
    obtain ⟨e, h5, h6⟩ := ga_116 (c8 := c8) (c10 := c10) (a0 := a0) (a1 := a1) (B := B) m (n + 1) (by omega) (nD_8 (adr d 8) (aX d) a1) (by omega)
    refine ⟨e, ?_, adm_tr (adm_tr (adm_r d 8) (adm_8 _ _ _)) h6⟩
    rw [G_116]
    rw [if_neg h1]
    show (asq (wQ c10 a0 B n) 1 a0 20 (Int32.ofNat n) (aX d) >>= fun c => G_116 a0 a1 0 [Int32.ofNat n + 1] [] [] (nC_8 (wS c8 B a1 n) (aX d) a1) c (nD_8 (adr d 8) (aX d) a1)) = _
    have e1 : asq (wQ c10 a0 B n) 1 a0 20 (Int32.ofNat n) (aX d) = some (wQ c10 a0 B (n + 1)) := by
      unfold asq
      rw [if_neg h2, h3, hX]; rfl
    rw [e1, h4]
    have e2 : nC_8 (wS c8 B a1 n) (aX d) a1 = wS c8 B a1 (n + 1) := by rw [hX]; rfl
    rw [e2]
    exact h5
theorem fa_116 {c8 c10 : Cl} {d : Ad} {a0 a1 : Nat} {r : Cl × Cl × Ad} (h : F_116 c8 c10 d a0 a1 = some r) : Adm d r.2.2 := by
  have x1 := pD_10_x d a0 a1
  obtain ⟨e, h5, h6⟩ := ga_116 (c8 := nC_8 c8 (aX d + 4) a1) (c10 := sR (zat c10 a0) 0 a0 (aX d + 4)) (a0 := a0) (a1 := a1) (B := aX d + 15) 20 0 rfl (pD_10 d a0 a1) (by omega)
  have h' : G_116 a0 a1 0 [Int32.ofNat 0] [] [] (wS (nC_8 c8 (aX d + 4) a1) (aX d + 15) a1 0) (wQ (sR (zat c10 a0) 0 a0 (aX d + 4)) a0 (aX d + 15) 0) (pD_10 d a0 a1) = some r := h
  rw [h5] at h'
  cases h'
  exact adm_tr (adm_10 _ _ _) h6
theorem zat_o {c : Cl} {a b : Nat} (n : b ≠ a) (k : Nat) : cI (zat c a) k b = cI c k b ∧ cJ (zat c a) k b = cJ c k b ∧ cR (zat c a) k b = cR c k b ∧ cA (zat c a) k b = cA c k b ∧ cB (zat c a) k b = cB c k b ∧ cQ (zat c a) k b = cQ c k b := by
  refine ⟨?_, ?_, ?_, ?_, ?_, ?_⟩ <;> exact if_neg n
theorem nC8_o (c8 : Cl) (a a1 : Nat) : Oth a c8 (nC_8 c8 a a1) := by
  unfold nC_8
  refine oth_tr ?_ oth_R
  intro k b n
  exact zat_o n k
theorem wS_o {c8 : Cl} {B a1 : Nat} : ∀ (n a : Nat), (∀ i, i < n → a ≠ B + 11 * i) → Sm8 c8 a (wS c8 B a1 n) a ∧ cR (wS c8 B a1 n) 0 a = cR c8 0 a
  | 0, a, _ => ⟨Sm8.rf _ _, rfl⟩
  | n + 1, a, h => by
    obtain ⟨g1, g2⟩ := wS_o (c8 := c8) (B := B) (a1 := a1) n a (fun i hi => h i (by omega))
    have o := nC8_o (wS c8 B a1 n) (B + 11 * n) a1
    exact ⟨Sm8.tr g1 (oth_sm o (h n (by omega))), ((o 0 a (h n (by omega))).2.2.1).trans g2⟩
theorem wS_r {c8 : Cl} {B a1 : Nat} : ∀ (n i : Nat), i < n → cR (wS c8 B a1 n) 0 (B + 11 * i) = a1
  | 0, i, h => absurd h (Nat.not_lt_zero _)
  | n + 1, i, h => by
    by_cases w : i = n
    · subst w
      show cR (sR (zat (wS c8 B a1 i) (B + 11 * i)) 0 (B + 11 * i) a1) 0 (B + 11 * i) = a1
      rw [cR_sR, if_pos ⟨rfl, rfl⟩]
    · have o := nC8_o (wS c8 B a1 n) (B + 11 * n) a1
      exact ((o 0 (B + 11 * i) (by omega)).2.2.1).trans (wS_r n i (by omega))
theorem wQ_o {c10 : Cl} {a0 B : Nat} : ∀ n, Oth a0 c10 (wQ c10 a0 B n) ∧ Kp [1] c10 (wQ c10 a0 B n) ∧ ∀ i, i < n → cQ (wQ c10 a0 B n) 1 a0 i = some (B + 11 * i)
  | 0 => ⟨oth_rf _ _, kp_rf _ _, fun i h => absurd h (Nat.not_lt_zero _)⟩
  | n + 1 => by
    obtain ⟨g1, g2, g3⟩ := wQ_o (c10 := c10) (a0 := a0) (B := B) n
    refine ⟨oth_tr g1 oth_Q, kp_tr g2 (kp_Q (by decide)), fun i hi => ?_⟩
    show cQ (sQ (wQ c10 a0 B n) 1 a0 (va_up (cQ (wQ c10 a0 B n) 1 a0) n (some (B + 11 * n)))) 1 a0 i = _
    rw [cQ_sQ, if_pos ⟨rfl, rfl⟩]
    unfold va_up
    by_cases w : i = n
    · rw [if_pos w, w]
    · rw [if_neg w]; exact g3 i (by omega)
/-- an image, of the class and of the reference -/
def IMr (c1 c8 c10 c12 : Cl) (B2 k w : Nat) (A : Nat → Nat) (X : Nat) : Prop := ∃ U R D H Q L K, cA c12 49 B2 k = nI U ∧ WR c1 c8 c10 w A (fun j => cA c12 47 B2 (221 * k + j)) (fun j => cA c12 48 B2 (3680 * k + j)) U (cA c12 50 B2 k) X R D H Q L K
section Image
variable {c1 c7 c8 c10 c11 c12 : Cl} {d : Ad} {B B2 w : Nat} {A Ak : Nat → Nat} {X R D H Q L k wk : Nat} {K : Nat → Nat}
theorem q_back (hw : cR c11 7 B = w) (hk : k < 4) (inj : ∀ i j, i ≤ 20 → j ≤ 20 → A i = A j → i = j) (ap : ∀ i j, i ≤ 20 → j ≤ 20 → A i ≠ Ak j) (nw : wk ≠ w) (h : WM c1 c8 c10 c12 B2 w A X R D H Q L K) (hq : cQ c11 8 B k = some wk) (hm : ¬ cA c12 51 B2 k = 0) (hI : IMr c1 c8 c10 c12 B2 k wk Ak X) : ∃ rx rm, F_155 c7 c8 c10 c11 B (nI k) = some rx ∧ F_298 c12 B2 (nI k) = some rm ∧ rx.1 = rm.1 ∧ rx.2.1 = sI c7 1 (cR c11 12 B) 0 ∧ (∀ a, (∀ i, i ≤ 20 → a ≠ A i) → Sm8 c8 a rx.2.2.1 a) ∧ Oth w c10 rx.2.2.2 ∧ Kp [20, 21, 22, 23] c12 rm.2 ∧ ∃ R' D' H' Q' L' K', WM c1 rx.2.2.1 rx.2.2.2 rm.2 B2 w A X R' D' H' Q' L' K' := by
  obtain ⟨U0, hU0, hW0⟩ := id h
  obtain ⟨a1, a2, a3, -⟩ := id hW0
  obtain ⟨U, R', D', H', Q', L', K', i1, i2⟩ := hI
  have u20 : U ≤ 20 := by obtain ⟨-, -, -, -, ⟨o, -, -, -, z, -⟩, -⟩ := i2; exact z
  obtain ⟨rx, x1, x2, x3, x4⟩ := cpw_ok (a0 := w) (a1 := wk) (A0 := A) (A1 := Ak) inj ap nw a1 a2 a3 i2
  obtain ⟨rm, m1, m2, m3, m4, m5, m6, m7⟩ := f_298 (c := c12) (a := B2) hk hm i1 u20
  have n0 : ¬ nI k < 0 := nI_pos (by omega)
  have n4 : ¬ (4 : Int32) ≤ nI k := show ¬ nI 4 ≤ nI k from nI_ge hk (by decide)
  have lq : ldq (cQ c11 8 B) 4 (nI k) = some (some wk) := (ldq_ok hk (by decide)).trans (by rw [hq])
  have hx : F_155 c7 c8 c10 c11 B (nI k) = some (cI rx.1 1 (cR rx.2 0 w), sI c7 1 (cR c11 12 B) 0, rx.1, rx.2) := by
    unfold F_155
    rw [hw]
    exact in_neg n0 (in_neg n4 (ob_mk lq (in_neg (fun z => by cases z) (ob_mk lq (ob_mk (v := wk) rfl (ob_mk x1 (ob_mk rfl rfl)))))))
  have hW' : WR c1 rx.1 rx.2 w A (cA rm.2 20 B2) (cA rm.2 22 B2) U (cI rm.2 21 B2) X R' D' H' Q' L' K' := by
    rw [m4]
    exact WR_c (fun i _ => Sm8.rf _ _) (fun ho _ => Sm1.rf _ _) (Sw.rf _ _) (fun j hj => m6 j hj) (fun j hj => m7 j hj) (Nat.le_refl _) x2
  refine ⟨_, rm, hx, m1, ?_, rfl, x3, x4, m2, R', D', H', Q', L', K', U, m3, hW'⟩
  obtain ⟨b1, -, -, ⟨M, E, -, s⟩, -⟩ := hW'
  show cI rx.1 1 (cR rx.2 0 w) = rm.1
  rw [b1, m5, s.1.1.2.2.2.2.1, s.1.1.2.2.2.2.2.1]
end Image
