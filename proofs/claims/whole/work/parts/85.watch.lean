/-! ===== watch: both alike ===== -/
theorem pop_dn : ∀ m : Fin 64, m.val ≠ 0 → ∃ k : Fin 64, k.val < m.val ∧ nI m.val &&& (nI m.val - 1) = nI k.val ∧ popN m.val = popN k.val + 1 := by decide +kernel
theorem gl_172 : ∀ (m x : Nat), m < 64 → G_172 0 [nI x, nI m] [] [] = some (nI (x + popN m)) := fun m => by
  induction m using Nat.strongRecOn with
  | ind m ih =>
    intro x hm
    rw [G_172]
    by_cases q : m = 0
    · subst q; exact in_pos rfl rfl
    · obtain ⟨k, k1, k2, k3⟩ := pop_dn ⟨m, hm⟩ q
      dsimp only at k1 k2 k3
      refine in_neg (nI_ne0 (by omega) (by omega)) ?_
      rw [k2, nI_1, ih k.val k1 (x + 1) k.isLt, k3]
      rw [show x + 1 + popN k.val = x + (popN k.val + 1) by omega]
theorem f_172 {m : Nat} (hm : m < 64) : F_172 (nI m) = some (nI (popN m)) := by
  unfold F_172
  have := gl_172 m 0 hm
  rw [Nat.zero_add] at this
  exact this
theorem sh_R : ∀ R : Fin 7, (1 : Int32) <<< (nI R.val &&& 31) = nI (2 ^ R.val) := by decide +kernel
theorem full_b : ∀ R : Fin 7, ∀ r : Fin 7, r.val < R.val → bt (nI (2 ^ R.val - 1)) r.val = true := by decide +kernel
theorem pop_R : ∀ R : Fin 7, ∀ m : Fin 64, m.val < 2 ^ R.val → popN m.val ≤ R.val := by decide +kernel
section Watch
variable {c1 c6 c8 c9 c10 c11 c12 : Cl} {sc wa B B2 : Nat} {A : Nat → Nat} {X R D H Q L N : Nat} {K : Nat → Nat} {gh gf gt gy : Nat → Nat}
/-- the set that is looked for -/
def Wst (N R : Nat) (gf gt gy : Nat → Nat) (w : Nat) : Prop := w < 2 ^ R ∧ KN (nI w) N gf gt gy ∧ ∀ s, s < 2 ^ R → KN (nI s) N gf gt gy → popN w < popN s ∨ (popN w = popN s ∧ w ≤ s)
theorem full_kn (r6 : R ≤ 6) (hG : GoX c9 wa N R gf gt gy) : KN (nI (2 ^ R - 1)) N gf gt gy := by
  intro k hk
  obtain ⟨-, -, -, g⟩ := hG
  obtain ⟨-, -, -, a4, a5, -⟩ := g k hk
  have fb : ∀ r, r < R → bt (nI (2 ^ R - 1)) r = true := fun r hr => full_b ⟨R, by omega⟩ ⟨r, by omega⟩ hr
  refine ⟨Or.inl (fb _ a4), fun j hj z => ?_⟩
  obtain ⟨-, -, -, b4, b5, -⟩ := g j (by omega)
  obtain ⟨z1, -, z2, z3⟩ := z
  refine z1 ⟨z2.elim id (fun e => ?_), z3.elim id (fun e => ?_)⟩
  · rw [fb _ a4] at e; cases e.1
  · rw [fb _ a5] at e; cases e.1
theorem w_step {s w : Nat} (r6 : R ≤ 6) (hG : GoX c9 wa N R gf gt gy) (hR : cI c6 0 (cR c9 0 wa) = nI R) {many : Nat} (m6 : many ≤ 6) (hs : s < 2 ^ R) (hk : ¬ (popN s = many ∧ KN (nI s) N gf gt gy)) : G_111 c6 c9 wa 1 [nI many, nI s] [] [] = G_111 c6 c9 wa 1 [nI many, nI (s + 1)] [] [] := by
  have l6 : (2 : Nat) ^ R ≤ 2 ^ 6 := Nat.pow_le_pow_right (by decide) r6
  have e64 : (2 : Nat) ^ 6 = 64 := rfl
  have pl := pop_R ⟨R, by omega⟩ ⟨s, by omega⟩ hs
  dsimp only at pl
  conv => lhs; rw [G_111]
  rw [hR, sh_R ⟨R, by omega⟩, if_neg (nI_ge hs (by omega)), f_300 ⟨s, by omega⟩]
  refine ob_e rfl ?_
  rw [nI_1]
  by_cases q : popN s = many
  · rw [if_pos (show nI (popN s) = nI many by rw [q])]
    rcases f_109 (x := nI s) hG with ⟨k1, k2⟩ | ⟨k1, k2⟩
    · exact absurd ⟨q, k1⟩ hk
    · refine ob_e k2 ?_
      rw [if_pos rfl]
  · rw [if_neg (show ¬ nI (popN s) = nI many from fun z => q ((nI_eq (by omega) (by omega)).mp z))]
theorem w_hit {w : Nat} (r6 : R ≤ 6) (hG : GoX c9 wa N R gf gt gy) (hR : cI c6 0 (cR c9 0 wa) = nI R) (hw : Wst N R gf gt gy w) : ∀ m s, s + m = w → G_111 c6 c9 wa 1 [nI (popN w), nI s] [] [] = some (nI w)
  | 0, s, hs => by
    have : s = w := by omega
    subst this
    have l6 : (2 : Nat) ^ R ≤ 2 ^ 6 := Nat.pow_le_pow_right (by decide) r6
    have e64 : (2 : Nat) ^ 6 = 64 := rfl
    have sl := hw.1
    rw [G_111]
    rw [hR, sh_R ⟨R, by omega⟩, f_300 ⟨s, by omega⟩]
    refine in_neg (show ¬ nI (2 ^ R) ≤ nI s from nI_ge hw.1 (by omega)) (ob_mk rfl (in_pos rfl ?_))
    rcases f_109 (x := nI s) hG with ⟨k1, k2⟩ | ⟨k1, k2⟩
    · exact ob_mk k2 (in_neg (by decide) rfl)
    · exact absurd hw.2.1 k1
  | m + 1, s, hs => by
    have l6 : (2 : Nat) ^ R ≤ 2 ^ 6 := Nat.pow_le_pow_right (by decide) r6
    have e64 : (2 : Nat) ^ 6 = 64 := rfl
    have wl := hw.1
    have pl := pop_R ⟨R, by omega⟩ ⟨w, by omega⟩ hw.1
    dsimp only at pl
    rw [w_step (w := w) r6 hG hR (by omega) (by omega) (fun z => by
      rcases hw.2.2 s (by omega) z.2 with q | q <;> omega)]
    exact w_hit r6 hG hR hw m (s + 1) (by omega)
theorem w_pass {w many : Nat} (r6 : R ≤ 6) (hG : GoX c9 wa N R gf gt gy) (hR : cI c6 0 (cR c9 0 wa) = nI R) (hw : Wst N R gf gt gy w) (hm : many < popN w) : ∀ m s, s + m = 2 ^ R → G_111 c6 c9 wa 1 [nI many, nI s] [] [] = G_111 c6 c9 wa 0 [nI (many + 1)] [] []
  | 0, s, hs => by
    have l6 : (2 : Nat) ^ R ≤ 2 ^ 6 := Nat.pow_le_pow_right (by decide) r6
    have e64 : (2 : Nat) ^ 6 = 64 := rfl
    conv => lhs; rw [G_111]
    rw [hR, sh_R ⟨R, by omega⟩, if_pos (show nI (2 ^ R) ≤ nI s from nI_le (by omega) (by omega)), nI_1]
  | m + 1, s, hs => by
    have l6 : (2 : Nat) ^ R ≤ 2 ^ 6 := Nat.pow_le_pow_right (by decide) r6
    have e64 : (2 : Nat) ^ 6 = 64 := rfl
    have wl := hw.1
    have pl := pop_R ⟨R, by omega⟩ ⟨w, by omega⟩ hw.1
    dsimp only at pl
    rw [w_step (w := w) r6 hG hR (by omega) (by omega) (fun z => by
      rcases hw.2.2 s (by omega) z.2 with q | q <;> omega)]
    exact w_pass r6 hG hR hw hm m (s + 1) (by omega)
theorem w_all {w : Nat} (r6 : R ≤ 6) (hG : GoX c9 wa N R gf gt gy) (hR : cI c6 0 (cR c9 0 wa) = nI R) (hw : Wst N R gf gt gy w) : ∀ m many, many + m = popN w → G_111 c6 c9 wa 0 [nI many] [] [] = some (nI w)
  | 0, many, hm => by
    have : many = popN w := by omega
    subst this
    have l6 : (2 : Nat) ^ R ≤ 2 ^ 6 := Nat.pow_le_pow_right (by decide) r6
    have e64 : (2 : Nat) ^ 6 = 64 := rfl
    have wl := hw.1
    have pl := pop_R ⟨R, by omega⟩ ⟨w, by omega⟩ hw.1
    dsimp only at pl
    rw [G_111]
    rw [hR]
    exact in_neg (nI_nlt pl (by omega)) (w_hit r6 hG hR hw w 0 (by omega))
  | m + 1, many, hm => by
    have l6 : (2 : Nat) ^ R ≤ 2 ^ 6 := Nat.pow_le_pow_right (by decide) r6
    have e64 : (2 : Nat) ^ 6 = 64 := rfl
    have wl := hw.1
    have pl := pop_R ⟨R, by omega⟩ ⟨w, by omega⟩ hw.1
    dsimp only at pl
    rw [G_111]
    rw [hR]
    exact in_neg (nI_nlt (by omega) (by omega)) ((w_pass r6 hG hR hw (by omega) (2 ^ R) 0 (by omega)).trans (w_all r6 hG hR hw m (many + 1) (by omega)))
/-- the reference goes down -/
theorem gl_274 (r6 : R ≤ 6) (hG : GoY c12 B2 N R gh gf gt gy) : ∀ (i b : Nat), i ≤ 2 ^ R → b < 2 ^ R → KN (nI b) N gf gt gy → (∀ s, i ≤ s → s < 2 ^ R → KN (nI s) N gf gt gy → popN b < popN s ∨ (popN b = popN s ∧ b ≤ s)) → ∃ w, Wst N R gf gt gy w ∧ G_274 c12 B2 0 [nI b, px i] [] [] = some (nI w, c12)
  | 0, b, _, hb, kb, hm => by
    refine ⟨b, ⟨hb, kb, fun s hs ks => hm s (Nat.zero_le _) hs ks⟩, ?_⟩
    rw [G_274]
    exact in_pos (by decide) rfl
  | i + 1, b, hi, hb, kb, hm => by
    have l6 : (2 : Nat) ^ R ≤ 2 ^ 6 := Nat.pow_le_pow_right (by decide) r6
    have e64 : (2 : Nat) ^ 6 = 64 := rfl
    have p1 := pop_R ⟨R, by omega⟩ ⟨b, by omega⟩ hb
    have p2 := pop_R ⟨R, by omega⟩ ⟨i, by omega⟩ (show i < 2 ^ R by omega)
    dsimp only at p1 p2
    have keep : (¬ (popN i ≤ popN b ∧ KN (nI i) N gf gt gy)) → ∃ w, Wst N R gf gt gy w ∧ G_274 c12 B2 0 [nI b, px i] [] [] = some (nI w, c12) := fun h => gl_274 r6 hG i b (by omega) hb kb (fun s hs sl ks => by
      by_cases e : s = i
      · subst e
        refine Or.inl (Nat.lt_of_not_le fun q => h ⟨q, ks⟩)
      · exact hm s (by omega) sl ks)
    rw [G_274]
    rw [px_s, f_172 (by omega), f_172 (by omega), show nI i + (-1) = px i from rfl]
    by_cases q : popN b < popN i
    · obtain ⟨w, w1, w2⟩ := keep (fun z => by omega)
      exact ⟨w, w1, in_neg (nI_pos (by omega)) (ob_mk rfl (ob_mk rfl (ob_mk (in_pos (nI_lt q (by omega)) rfl) w2)))⟩
    · rcases f_272 (x := nI i) hG with ⟨k1, k2⟩ | ⟨k1, k2⟩
      · obtain ⟨w, w1, w2⟩ := gl_274 r6 hG i i (by omega) (by omega) k1 (fun s hs sl ks => by
          by_cases e : s = i
          · subst e; exact Or.inr ⟨rfl, Nat.le_refl _⟩
          · rcases hm s (by omega) sl ks with z | z
            · exact Or.inl (by omega)
            · by_cases y : popN i = popN s
              · exact Or.inr ⟨y, by omega⟩
              · exact Or.inl (by omega))
        exact ⟨w, w1, in_neg (nI_pos (by omega)) (ob_mk rfl (ob_mk rfl (ob_mk (v := nI i) (in_neg (nI_nlt (by omega) (by omega)) (ob_mk k2 (in_neg (by decide) rfl))) w2)))⟩
      · obtain ⟨w, w1, w2⟩ := keep (fun z => k1 z.2)
        exact ⟨w, w1, in_neg (nI_pos (by omega)) (ob_mk rfl (ob_mk rfl (ob_mk (v := nI b) (in_neg (nI_nlt (by omega) (by omega)) (ob_mk k2 (in_pos rfl rfl))) w2)))⟩
theorem q_watch (h : WM c1 c8 c10 c12 B2 (cR c11 7 B) A X R D H Q L K) (hP : Pw c12 B2) : ∃ rx rm, F_145 c1 c6 c8 c9 c10 c11 B = some rx ∧ F_274 c12 B2 = some rm ∧ rx.1 = rm.1 ∧ Kp [0, 1, 2, 3, 4, 5, 6, 7, 8, 9, 10, 11] c6 rx.2.1 ∧ Oth (cR c9 0 (cR c11 14 B)) c6 rx.2.1 ∧ Kp [1, 2, 3, 4] c9 rx.2.2 ∧ Oth (cR c11 14 B) c9 rx.2.2 ∧ Kp [24, 29, 30, 31] c12 rm.2 := by
  obtain ⟨U, hU, a1, a2, a3, ⟨M, E, m9, s⟩, -⟩ := id h
  have s' := s
  rw [← a1] at s'
  have hN := s'.1.1
  obtain ⟨⟨hR1, hR, r6⟩, -⟩ := id hN
  unfold F_145 F_274
  by_cases q : hh1 R = 0
  · exact ⟨_, _, ob_mk (f_157 hN) (in_pos q rfl), ob_mk (f_218 hN) (in_pos q rfl), rfl, kp_rf _ _, oth_rf _ _, kp_rf _ _, oth_rf _ _, kp_rf _ _⟩
  obtain ⟨c6', c9', c12', N, g1, g2, n30, g3, g4, gS, g5, g6, g7, g8⟩ := list_ok (c6 := c6) (c9 := c9) (wa := cR c11 14 B) s' hP
  obtain ⟨gh, gf, gt, gy, gx, gy'⟩ := go_fn s' n30 (by rw [(g7 20 (by decide)).2.2.2.1]) g8
  have l6 : (2 : Nat) ^ R ≤ 2 ^ 6 := Nat.pow_le_pow_right (by decide) r6
  have l0 : 0 < 2 ^ R := Nat.two_pow_pos R
  have e64 : (2 : Nat) ^ 6 = 64 := rfl
  obtain ⟨w, w1, w2⟩ := gl_274 (c12 := c12') (B2 := B2) r6 gy' (2 ^ R) (2 ^ R - 1) (Nat.le_refl _) (by omega) (full_kn r6 gx) (fun s u v => by omega)
  have r0 : cR c9' 0 (cR c11 14 B) = cR c9 0 (cR c11 14 B) := by rw [(g5 0 (by decide)).2.2.1]
  have wx := w_all (c6 := c6') (c9 := c9') (wa := cR c11 14 B) r6 gx (by rw [r0]; exact gS.1) w1 (popN w) 0 (by omega)
  have full : nI (2 ^ R) - 1 = nI (2 ^ R - 1) := pk_sub (a := 2 ^ R) (b := 1) (by omega)
  refine ⟨(nI w, c6', c9'), (nI w, c12'), ob_mk (f_157 hN) (in_neg q (ob_mk g1 (ob_mk wx rfl))), ob_mk (f_218 hN) (in_neg q (ob_mk g2 (ob_mk al_0 ?_))), rfl, g3, g4, g5, g6, g7⟩
  rw [gy'.2.1, sh_R ⟨R, by omega⟩, full]
  have e : px (2 ^ R) = nI (2 ^ R - 1) := by
    have := px_s (2 ^ R - 1)
    rw [show 2 ^ R - 1 + 1 = 2 ^ R by omega] at this
    exact this
  rw [e] at w2
  exact w2
end Watch
