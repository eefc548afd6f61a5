/-! arrays that nobody owned become an object's -/
section Rows12
variable {h : UH} {w w' : Wd} {d d' : Ad}
/-- objects that are being made, and their arrays, become objects with arrays of their own -/
theorem hw_own12 (hW : HW w d h) (S T : Nat → Prop) (hX : aX d' = aX d) (hZ : aS d' = aS d) (hN : aN d' = aN d) (hF : aF d' = aF d) (hL : aL d' = aL d) (hT : aT d' = aT d)
    (k0 : ∀ b, ¬ S b → ¬ T b → aK d' b = aK d b) (p0 : ∀ b c k, ¬ S b → aP d' c k b = aP d c k b) (o0 : ∀ b, ¬ T b → aO d' b = aO d b)
    (w0 : ∀ c k b, c < 13 → ¬ S b → cI (wg c w') k b = cI (wg c w) k b ∧ cJ (wg c w') k b = cJ (wg c w) k b ∧ cR (wg c w') k b = cR (wg c w) k b ∧ cA (wg c w') k b = cA (wg c w) k b ∧ cB (wg c w') k b = cB (wg c w) k b ∧ cQ (wg c w') k b = cQ (wg c w) k b)
    (w1 : wg 13 w' = wg 13 w)
    (s1 : ∀ b, S b → ∃ c, c < 13 ∧ aK d b = (3, c, 0) ∧ aK d' b = (0, c, 0) ∧ aF d b = flds w' d' c b ∧ ∀ k, k < nsl c → wfs w' d' c k b)
    (t1 : ∀ b, T b → ∃ t c k, (aK d b = (4, t, 0) ∧ arrc (wg c w') (sd c k).2.1 (sd c k).2.2 k (aO d' b) = arrc zcl t (aN d b) 0 0 ∨ aK d b = (2, t, 0) ∧ arrc (wg c w') (sd c k).2.1 (sd c k).2.2 k (aO d' b) = arrc (wg 13 w) t (aN d b) 0 b) ∧ aK d' b = (1, c, k) ∧ aK d' (aO d' b) = (0, c, 0) ∧ k < nsl c ∧ aP d' c k (aO d' b) = b)
    (t2 : ∀ a c k, aK d a = (0, c, 0) → k < nsl c → (sd c k).1 = 4 → ¬ T (cR (wg c w) k a)) : HW w' d' h := by
  have nS : ∀ {b : Nat} {y : Nat × Nat × Nat}, aK d b = y → y.1 ≠ 3 → ¬ S b := fun {b y} e g q => by
    obtain ⟨c, -, e2, -⟩ := s1 b q; rw [e] at e2; subst e2; exact g rfl
  have nT : ∀ {b : Nat} {y : Nat × Nat × Nat}, aK d b = y → y.1 ≠ 4 → y.1 ≠ 2 → ¬ T b := fun {b y} e g g2 q => by
    obtain ⟨t, c, k, ⟨e2, -⟩ | ⟨e2, -⟩, -⟩ := t1 b q
    · rw [e] at e2; subst e2; exact g rfl
    · rw [e] at e2; subst e2; exact g2 rfl
  have kk : ∀ {b : Nat} {y : Nat × Nat × Nat}, aK d b = y → y.1 ≠ 3 → y.1 ≠ 4 → y.1 ≠ 2 → aK d' b = y := fun {b y} e g1 g2 g3 => (k0 b (nS e g1) (nT e g2 g3)).trans e
  have old : ∀ {b c k : Nat}, ¬ S b → aK d' b = (0, c, k) → aK d b = (0, c, k) := fun {b c k} g e => by
    by_cases q : T b
    · obtain ⟨t, c', k', -, e2, -⟩ := t1 b q; rw [e] at e2; cases e2
    · rw [← k0 b g q]; exact e
  refine ⟨fun q => ?_, hW.2.1.trans hX.symm, hW.2.2.1.trans hZ.symm, ?_, fun a c k hk => ?_, fun a c k hk => ?_, fun a ha => ?_, fun a t k hk => ?_⟩
  · rw [hW.1 q]
    by_cases q1 : S q
    · obtain ⟨c, -, e1, e2, e3, -⟩ := s1 q q1
      unfold cellOf
      rw [e1, e2]
      show Sum.inr (c, aF d q) = Sum.inr (c, flds w' d' c q)
      rw [e3]
    · by_cases q2 : T q
      · obtain ⟨t, c, k, ⟨e1, e6⟩ | ⟨e1, e6⟩, e2, -, -, -⟩ := t1 q q2
        · unfold cellOf
          rw [e1, e2]
          exact e6.symm
        · unfold cellOf
          rw [e1, e2]
          exact e6.symm
      · unfold cellOf
        rw [k0 q q1 q2]
        split
        · rename_i c j hk
          obtain ⟨rfl, hc⟩ := hW.2.2.2.2.1 q c j hk
          unfold flds
          congr 2
          refine List.map_congr_left fun k hm => ?_
          have hf := hW.2.2.2.1 q c hk k (List.mem_range.mp hm)
          obtain ⟨g1, g2, g3, -⟩ := w0 c k q hc q1
          unfold wfs at hf
          unfold fval
          split
          · rw [g1]
          · rw [g2]
          · rw [g3]
          · rw [p0 q c k q1]
          · rw [g3]
          · rename_i e; rw [e] at hf
            rw [g3, p0 _ 11 0 (nS hf (show (0 : Nat) ≠ 3 by decide))]
          · rfl
        · rename_i c k hk
          have go := (hW.2.2.2.2.2.1 q c k hk).1
          have hc := (hW.2.2.2.2.1 _ c 0 go).2
          obtain ⟨-, -, -, g4, g5, g6⟩ := w0 c k (aO d q) hc (nS go (show (0 : Nat) ≠ 3 by decide))
          rw [o0 q q2]
          unfold arrc
          rw [g4, g5, g6]
        · rw [w1, hN]
        · rw [hF]
        · rw [hN]
        · rw [hL, hT]
        · rfl
  · intro a c hk k hn
    by_cases q1 : S a
    · obtain ⟨c', -, -, e2, -, e4⟩ := s1 a q1
      rw [hk] at e2; cases e2
      exact e4 k hn
    · have hk0 := old q1 hk
      have hc := (hW.2.2.2.2.1 a c 0 hk0).2
      have hf := hW.2.2.2.1 a c hk0 k hn
      obtain ⟨-, -, g3, -, -, g6⟩ := w0 c k a hc q1
      unfold wfs at hf ⊢
      split
      · rename_i e; rw [e] at hf; rw [g3]; exact kk hf (show (0 : Nat) ≠ 3 by decide) (show (0 : Nat) ≠ 4 by decide) (show (0 : Nat) ≠ 2 by decide)
      · rename_i e; rw [e] at hf
        rw [p0 a c k q1, g6]
        refine ⟨kk hf.1 (show (1 : Nat) ≠ 3 by decide) (show (1 : Nat) ≠ 4 by decide) (show (1 : Nat) ≠ 2 by decide), ?_, fun z j q hq => kk (hf.2.2 z j q hq) (show (0 : Nat) ≠ 3 by decide) (show (0 : Nat) ≠ 4 by decide) (show (0 : Nat) ≠ 2 by decide)⟩
        rw [o0 _ (nT hf.1 (show (1 : Nat) ≠ 4 by decide) (show (1 : Nat) ≠ 2 by decide))]; exact hf.2.1
      · rename_i e; rw [e] at hf; rw [g3]; exact (k0 _ (nS hf (show (2 : Nat) ≠ 3 by decide)) (t2 a c k hk0 hn (by rw [e]))).trans hf
      · rename_i e; rw [e] at hf; rw [g3]; exact kk hf (show (0 : Nat) ≠ 3 by decide) (show (0 : Nat) ≠ 4 by decide) (show (0 : Nat) ≠ 2 by decide)
      · trivial
  · by_cases q1 : S a
    · obtain ⟨c', e0, -, e2, -⟩ := s1 a q1
      rw [hk] at e2; cases e2
      exact ⟨rfl, e0⟩
    · exact hW.2.2.2.2.1 a c k (old q1 hk)
  · by_cases q1 : S a
    · obtain ⟨c', -, -, e2, -⟩ := s1 a q1
      rw [hk] at e2; cases e2
    · by_cases q2 : T a
      · obtain ⟨t, c', k', -, e2, e3, e4, e5⟩ := t1 a q2
        rw [hk] at e2; cases e2
        exact ⟨e3, e4, e5⟩
      · rw [k0 a q1 q2] at hk
        obtain ⟨g1, g2, g3⟩ := hW.2.2.2.2.2.1 a c k hk
        rw [o0 a q2]
        exact ⟨kk g1 (show (0 : Nat) ≠ 3 by decide) (show (0 : Nat) ≠ 4 by decide) (show (0 : Nat) ≠ 2 by decide), g2, (p0 _ c k (nS g1 (show (0 : Nat) ≠ 3 by decide))).trans g3⟩
  · rw [hX] at ha
    exact kk (hW.2.2.2.2.2.2.1 a ha) (show (9 : Nat) ≠ 3 by decide) (show (9 : Nat) ≠ 4 by decide) (show (9 : Nat) ≠ 2 by decide)
  · rw [hN]
    by_cases q1 : S a
    · obtain ⟨c', -, -, e2, -⟩ := s1 a q1
      rw [hk] at e2; cases e2
    · by_cases q2 : T a
      · obtain ⟨t', c', k', -, e2, -⟩ := t1 a q2
        rw [hk] at e2; cases e2
      · rw [k0 a q1 q2] at hk
        exact hW.2.2.2.2.2.2.2 a t k hk
end Rows12
section RowsP
variable {call : Nat → List Value → UH → UR → Prop} {code : Nat → Option UI} {pc : Nat} {L : List (Option Value)} {r st : List Value} {h : UH} {res : UR → Prop} {w w' : Wd} {d : Ad}
theorem en_nfO {n : Int32} {N A B : Nat} (hc : code pc = some (.newarray .int, [1])) (hW : HW w d h) (hn : ¬ (n < 0 ∨ ¬ n.toNatClampNeg ≤ 1000000)) (hN : n.toNatClampNeg = N) (hX : aX d = A) (hS : aS d = B) (kk : ∀ (h' : UH) (e : Ad), e = adn d 1 N → HW (ws 13 w (sA (wg 13 w) 0 A (fun _ => 0))) e h' → Adx d e → aK e A = (2, 1, 0) → aN e A = N → aX e = A + 1 → aS e = B + N → Ends call code (pc + 2, L, .ref A :: r, h') res) : Ends call code (pc, L, .int n :: r, h) res := by
  subst hN
  refine en_newI (z := (sA (wg 13 w) 0 (aX d) (fun _ => 0), adn d 1 n.toNatClampNeg)) hc hW (by unfold nwI; rw [if_neg hn]) (fun h' g1 g2 g3 => ?_)
  have g4 : aN (adn d 1 n.toNatClampNeg) (aX d) = n.toNatClampNeg := by show va_up (aN d) (aX d) _ (aX d) = _; unfold va_up; rw [if_pos rfl]
  subst hX hS
  exact kk h' _ rfl g1 g2 g3 g4 rfl rfl
theorem bk_z {e : Ad} {t n b c : Nat} (q : aK (adz e t n) b = (0, c, 0)) : aK e b = (0, c, 0) := by
  rw [adz_k] at q
  split at q
  · cases q
  · exact q
theorem bk_n {e : Ad} {t n b c : Nat} (q : aK (adn e t n) b = (0, c, 0)) : aK e b = (0, c, 0) := by
  rw [adn_k] at q
  split at q
  · cases q
  · exact q
theorem en_fsO {A : Nat} {n : Nat} {i x : Int32} {y : Cl} (hc : code pc = some (.iastore, [])) (hW : HW w d h) (hk : aK d A = (2, 1, 0)) (hn : aN d A = n) (hi : ¬ (i < 0 ∨ n ≤ i.toNatClampNeg)) (hy : y = sA (wg 13 w) 0 A (upd (cA (wg 13 w) 0 A) i.toNatClampNeg x)) (kk : ∀ h' : UH, HW (ws 13 w y) d h' → Ends call code (pc + 1, L, r, h') res) : Ends call code (pc, L, .int x :: .int i :: .ref A :: r, h) res := by
  refine en_fiast hc hW hk (c' := y) ?_ kk
  unfold ast
  rw [hn, if_neg hi, hy]
end RowsP
