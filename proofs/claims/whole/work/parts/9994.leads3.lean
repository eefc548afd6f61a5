/-! ===== theft: all leads, by the reference ===== -/
def wb (h : Nat) : Nat := sn (fun h => 5 * (26 - 5 * h)) h
def ctr (x r : Nat) : Nat := if x < r then r - 1 else r
theorem ctr_s {x r : Nat} (h : r ≠ x) : ctr x (r + 1) = ctr x r + 1 := by
  unfold ctr
  by_cases w : x < r
  · rw [if_pos w, if_pos (show x < r + 1 by omega)]; omega
  · rw [if_neg w, if_neg (show ¬ x < r + 1 by omega)]
theorem ctr_m {x r : Nat} : ctr x r ≤ ctr x (r + 1) := by
  unfold ctr
  by_cases w : x < r
  · rw [if_pos w, if_pos (show x < r + 1 by omega)]; omega
  · rw [if_neg w]; split <;> omega
theorem ctr_5 {x r : Nat} (h : x < r) (hr : r ≤ 6) : ctr x r ≤ 5 := by unfold ctr; rw [if_pos h]; omega
theorem ctr_4 {x r R : Nat} (hx : x < R) (hr : r < R) (h : r ≠ x) (h6 : R ≤ 6) : ctr x r ≤ 4 := by unfold ctr; split <;> omega
theorem wb_405 {h : Nat} (hh : h < 6) : wb h + 5 * (26 - 5 * h) ≤ 405 := by
  have : h = 0 ∨ h = 1 ∨ h = 2 ∨ h = 3 ∨ h = 4 ∨ h = 5 := by omega
  rcases this with e | e | e | e | e | e <;> subst e <;> decide
section Leads3
variable {c1 c8 : Cl} {st B2 : Nat} {S : Nat → Int32} {R D H Q M L E : Nat} {K : Nat → Nat} {a : Nat → Nat} {cz : Cl} {Po : Cl → Prop}
/-- rooms of a second one -/
theorem gl_280c {h1 r1 h2 B0 : Nat} (hS : SR c1 c8 st S R D H Q M L E K) (hR0 : 0 < R) (eS : cA cz 20 B2 = S) (hP : Pw cz B2) (ha : Qok S R H a) (h32 : ∀ h, h < 6 → cA cz 32 B2 h = nI (qx S H a h)) (h33 : ∀ s, s < Q → cA cz 33 B2 s = nI (lb S H a s)) (l1 : h1 < H) (w1 : ¬ lv S h1 = 0) (q1 : r1 < R) (n1 : r1 ≠ a h1) (k1 : ¬ bit1 (bs S (nI (a h1)) D) (nI r1) = 0) (h12 : h1 < h2) (l2 : h2 < H) (w2 : ¬ lv S h2 = 0) (hb : B0 + (26 - 5 * h1) ≤ 405) (ks : ∀ (c' : Cl) (n : Nat), Kp [24, 38, 39] cz c' → (∀ h, h < H → ¬ lv S h = 0 → h ≠ h2 → cA c' 24 B2 h = nI (mv a h1 r1 h)) → Mem S R D H Q a B2 (V2 S H a h1 r1 (h2 + 1) 0) n c' → n ≤ B0 + 1 + 5 * (h2 - h1) → Rn (G_280 B2 4 [nI (kr S H a), nI h1, nI r1, nI (kr S H (mv a h1 r1)), nI h2] [] [] c') Po) : ∀ (m r2 : Nat) (c' : Cl) (n : Nat), r2 + m = R → Kp [24, 38, 39] cz c' → (∀ h, h < H → ¬ lv S h = 0 → h ≠ h2 → cA c' 24 B2 h = nI (mv a h1 r1 h)) → Mem S R D H Q a B2 (V2 S H a h1 r1 h2 r2) n c' → n ≤ B0 + 1 + 5 * (h2 - h1 - 1) + ctr (a h2) r2 → Rn (G_280 B2 3 [nI (kr S H a), nI h1, nI r1, nI (kr S H (mv a h1 r1)), nI h2, nI r2] [] [] c') Po
  | 0, r2, c', n, hr, hK, h24, hm, hn => by
    have : r2 = R := by omega
    subst this
    obtain ⟨⟨-, hR, r6⟩, -, ⟨-, -, h6⟩, -⟩ := id hS.1.1
    have eS' : cA c' 20 B2 = S := by rw [(hK 20 (by decide)).2.2.2.1]; exact eS
    have := ctr_5 (ha h2 l2 w2) r6
    rw [G_280, eS']
    refine rn_e al_0 (rn_p (by rw [hR]; exact nI_le (Nat.le_refl _) (by omega)) (ks c' n hK h24 (mem_cg (fun q q1 _ => v2_row q1) hm) (by omega)))
  | m + 1, r2, c', n, hr, hK, h24, hm, hn => by
    obtain ⟨⟨-, hR, r6⟩, ⟨-, hD, d10⟩, ⟨-, -, h6⟩, -⟩ := id hS.1.1
    have eS' : cA c' 20 B2 = S := by rw [(hK 20 (by decide)).2.2.2.1]; exact eS
    have a2 := ha h2 l2 w2
    have e32 : cA c' 32 B2 h2 = nI (a h2) := by rw [(hK 32 (by decide)).2.2.2.1, h32 h2 (by omega), qx_l l2 w2]
    rw [G_280]
    refine rn_e (by rw [eS']; exact al_0) (rn_n (by rw [hR]; exact nI_ge (by omega) (by omega)) (rn_e (v := lv S h2) ((f_224 (by omega)).trans (by rw [eS'])) (rn_n w2 (rn_ld (by omega) (by decide) ?_))))
    rw [e32]
    refine rn_e (v := bs S (nI (a h2)) D) ((f_232 (by rw [eS']; exact hD) d10).trans (by rw [eS'])) (rn_e (f_171 _ _) ?_)
    refine rn_b (P := fun t => Kp [24, 38, 39] cz t ∧ (∀ h, h < H → ¬ lv S h = 0 → h ≠ h2 → cA t 24 B2 h = nI (mv a h1 r1 h)) ∧ ∃ n', n' ≤ B0 + 1 + 5 * (h2 - h1 - 1) + ctr (a h2) (r2 + 1) ∧ Mem S R D H Q a B2 (V2 S H a h1 r1 h2 (r2 + 1)) n' t) ?_ (fun t ⟨t1, t2, n', t3, t4⟩ => ?_)
    · by_cases y : bit1 (bs S (nI (a h2)) D) (nI r2) = 0
      · refine rn_p y (rn_r ⟨hK, h24, n, ?_, mem_cg (fun q _ q2 => v2_skip q2 (Or.inr y)) hm⟩)
        have := ctr_m (x := a h2) (r := r2)
        omega
      · have n2 : r2 ≠ a h2 := fun z => y (by rw [z]; exact no_self hS a2)
        have c1' := ctr_s (x := a h2) (r := r2) n2
        have c4 := ctr_4 a2 (show r2 < R by omega) n2 r6
        refine rn_n y (rn_st (by omega) (by decide) ?_)
        obtain ⟨t, ht⟩ : ∃ t, t = sA c' 24 B2 (upd (cA c' 24 B2) h2 (nI r2)) := ⟨_, rfl⟩
        rw [← ht]
        have kt : Kp [24] c' t := by rw [ht]; exact kp_A (by decide)
        have kz : Kp [24, 38, 39] cz t := kp_tr hK (kp_wd kt (by decide))
        have t24 : ∀ h, h < H → ¬ lv S h = 0 → cA t 24 B2 h = nI (mv (mv a h1 r1) h2 r2 h) := fun h hh hl => by
          rw [ht, cA_same]
          by_cases z : h = h2
          · rw [z, pk_us]; exact congrArg nI (if_pos rfl).symm
          · rw [pk_un z, h24 h hh hl z]; exact congrArg nI (if_neg z).symm
        have qa1 : Qok S R H (mv a h1 r1) := mv_ok ha q1
        have qa2 : Qok S R H (mv (mv a h1 r1) h2 r2) := mv_ok qa1 (by omega)
        have m12 : mv a h1 r1 h2 = a h2 := if_neg (by omega)
        have g1 : gn S H a (mv a h1 r1) = 1 := by rw [gn_mv l1 w1 rfl n1, gn_0]
        have g2 : gn S H a (mv (mv a h1 r1) h2 r2) = 2 := by rw [gn_mv l2 w2 m12 n2, g1]
        have hL : ∀ h, h < H → ¬ lv S h = 0 → lkq S D a h (mv (mv a h1 r1) h2 r2 h) := fun h hh hl => by
          show lkq S D a h (if h = h2 then r2 else mv a h1 r1 h)
          by_cases z : h = h2
          · rw [if_pos z, z]; exact Or.inr y
          · rw [if_neg z]
            show lkq S D a h (if h = h1 then r1 else a h)
            by_cases z' : h = h1
            · rw [if_pos z', z']; exact Or.inr k1
            · rw [if_neg z']; exact Or.inl rfl
        have eSt : cA t 20 B2 = S := by rw [(kz 20 (by decide)).2.2.2.1]; exact eS
        obtain ⟨r, f6, hr2⟩ := push_ok (a := a) (V := V2 S H a h1 r1 h2 r2) (v := nI (kr S H (mv (mv a h1 r1) h2 r2))) hS hR0 eSt qa2 ⟨hL, by omega, by omega⟩ t24 (fun s hs => by rw [(kz 33 (by decide)).2.2.2.1]; exact h33 s hs) rfl (show n < 420 by omega) (fun q hq hv => by
          have e2 : q h2 = r2 := by rw [hq h2 l2 w2]; exact if_pos rfl
          have e1 : q h1 = r1 := by
            rw [hq h1 l1 w1]
            show (if h1 = h2 then r2 else mv a h1 r1 h1) = _
            rw [if_neg (by omega)]; exact if_pos rfl
          have ev : ∀ j, j < H → ¬ lv S j = 0 → j ≠ h1 → j ≠ h2 → q j = a j := fun j hj hl j1 j2 => by
            rw [hq j hj hl]
            show (if j = h2 then r2 else mv a h1 r1 j) = _
            rw [if_neg j2]; exact if_neg j1
          rcases hv with ⟨i, i1, i2, i3, i4, i5⟩ | ⟨-, -, hv | ⟨i, i1, i2, i3, i4, i5, i6⟩⟩
          · rcases i5 with i5 | ⟨i5, i6⟩
            · exact i3 (ev i i1 i2 (by omega) (by omega))
            · rw [i5, e1] at i6; omega
          · exact n2 (e2 ▸ hv h2 h12 l2 w2)
          · rcases i6 with i6 | ⟨i6, i7⟩
            · exact i4 (ev i i2 i3 (by omega) (by omega))
            · rw [i6, e2] at i7; omega) (mem_k kt (by decide) (by decide) hm)
        refine rn_e f6 ?_
        have m' : ∀ x y, Mem S R D H Q a B2 (fun q => V2 S H a h1 r1 h2 r2 q ∨ agr S H q (mv (mv a h1 r1) h2 r2)) x y → Mem S R D H Q a B2 (V2 S H a h1 r1 h2 (r2 + 1)) x y := fun x y hx => mem_cg (fun q _ q2 => v_pair l1 w1 n1 h12 l2 w2 n2 q2) hx
        rcases hr2 with ⟨z, hz⟩ | ⟨z, hz⟩
        · exact rn_p z (rn_r ⟨kz, fun h hh hl hne => by rw [t24 h hh hl]; exact congrArg nI (if_neg hne), n, by omega, m' _ _ hz⟩)
        · refine rn_n z (rn_e (v := nI (6 ^ (5 - h2))) ((ald_ok (by omega) (by decide)).trans (by rw [(kz 25 (by decide)).2.2.2.1, hP h2 (by omega)])) (rn_e (v := nI (a h2)) ((ald_ok (by omega) (by decide)).trans (by rw [(kt 32 (by decide)).2.2.2.1, e32])) ?_))
          have ek := kr_mv hR0 h6 (r := r2) qa1 (by omega) l2 w2
          rw [m12] at ek
          rw [ek]
          refine rn_b hz (fun c ⟨kc', hc⟩ => rn_r ⟨kp_tr kz (kp_wd kc' (by decide)), fun h hh hl hne => ?_, n + 1, by omega, m' _ _ hc⟩)
          rw [(kc' 24 (by decide)).2.2.2.1, t24 h hh hl]
          exact congrArg nI (if_neg hne)
    · rw [nI_1]
      exact gl_280c hS hR0 eS hP ha h32 h33 l1 w1 q1 n1 k1 h12 l2 w2 hb ks m (r2 + 1) t n' (by omega) t1 t2 t4 t3
/-- the second ones -/
theorem gl_280b {h1 r1 B0 : Nat} (hS : SR c1 c8 st S R D H Q M L E K) (hR0 : 0 < R) (eS : cA cz 20 B2 = S) (hP : Pw cz B2) (ha : Qok S R H a) (h32 : ∀ h, h < 6 → cA cz 32 B2 h = nI (qx S H a h)) (h33 : ∀ s, s < Q → cA cz 33 B2 s = nI (lb S H a s)) (l1 : h1 < H) (w1 : ¬ lv S h1 = 0) (q1 : r1 < R) (n1 : r1 ≠ a h1) (k1 : ¬ bit1 (bs S (nI (a h1)) D) (nI r1) = 0) (hb : B0 + (26 - 5 * h1) ≤ 405) (ks : ∀ (c' : Cl) (n : Nat), Kp [24, 38, 39] cz c' → (∀ h, h < H → ¬ lv S h = 0 → cA c' 24 B2 h = nI (mv a h1 r1 h)) → Mem S R D H Q a B2 (V2 S H a h1 r1 H 0) n c' → n ≤ B0 + (26 - 5 * h1) → Rn (G_280 B2 1 [nI (kr S H a), nI h1, nI (r1 + 1)] [] [] c') Po) : ∀ (m h2 : Nat) (c' : Cl) (n : Nat), h2 + m = H → h1 < h2 → Kp [24, 38, 39] cz c' → (∀ h, h < H → ¬ lv S h = 0 → cA c' 24 B2 h = nI (mv a h1 r1 h)) → Mem S R D H Q a B2 (V2 S H a h1 r1 h2 0) n c' → n ≤ B0 + 1 + 5 * (h2 - h1 - 1) → Rn (G_280 B2 2 [nI (kr S H a), nI h1, nI r1, nI (kr S H (mv a h1 r1)), nI h2] [] [] c') Po
  | 0, h2, c', n, hh, h12, hK, h24, hm, hn => by
    have : h2 = H := by omega
    subst this
    obtain ⟨-, -, ⟨-, hH, h6⟩, -⟩ := id hS.1.1
    have eS' : cA c' 20 B2 = S := by rw [(hK 20 (by decide)).2.2.2.1]; exact eS
    rw [G_280, eS']
    refine rn_e al_2 (rn_p (by rw [hH]; exact nI_le (Nat.le_refl _) (by omega)) ?_)
    rw [nI_1]
    exact ks c' n hK h24 hm (by omega)
  | m + 1, h2, c', n, hh, h12, hK, h24, hm, hn => by
    obtain ⟨⟨-, hR, r6⟩, -, ⟨-, hH, h6⟩, -⟩ := id hS.1.1
    have eS' : cA c' 20 B2 = S := by rw [(hK 20 (by decide)).2.2.2.1]; exact eS
    have l2 : h2 < H := by omega
    rw [G_280, eS']
    refine rn_e al_2 (rn_n (by rw [hH]; exact nI_ge l2 (by omega)) ?_)
    have l4 : ∀ (c' : Cl) (n : Nat), Kp [24, 38, 39] cz c' → (∀ h, h < H → ¬ lv S h = 0 → h ≠ h2 → cA c' 24 B2 h = nI (mv a h1 r1 h)) → Mem S R D H Q a B2 (V2 S H a h1 r1 (h2 + 1) 0) n c' → n ≤ B0 + 1 + 5 * (h2 - h1) → Rn (G_280 B2 4 [nI (kr S H a), nI h1, nI r1, nI (kr S H (mv a h1 r1)), nI h2] [] [] c') Po := fun c' n hK h24 hm hn => by
      rw [G_280]
      refine rn_ld (by omega) (by decide) (rn_st (by omega) (by decide) ?_)
      rw [nI_1, (hK 32 (by decide)).2.2.2.1, h32 h2 (by omega)]
      refine gl_280b hS hR0 eS hP ha h32 h33 l1 w1 q1 n1 k1 hb ks m (h2 + 1) _ n (by omega) (by omega) (kp_tr hK (kp_A (by decide))) (fun h hh hl => ?_) (mem_k (Ks := [24]) (kp_A (by decide)) (by decide) (by decide) hm) (by omega)
      rw [cA_same]
      by_cases z : h = h2
      · rw [z] at hl ⊢
        rw [pk_us, qx_l l2 hl]; exact congrArg nI (if_neg (show ¬ h2 = h1 by omega)).symm
      · rw [pk_un z]; exact h24 h hh hl z
    by_cases w2 : lv S h2 = 0
    · show Rn (G_280 B2 3 [nI (kr S H a), nI h1, nI r1, nI (kr S H (mv a h1 r1)), nI h2, nI 0] [] [] c') Po
      rw [G_280]
      refine rn_e (by rw [eS']; exact al_0) (rn_n (by rw [hR]; exact nI_ge hR0 (by omega)) (rn_e (v := lv S h2) ((f_224 (by omega)).trans (by rw [eS'])) (rn_p w2 ?_)))
      exact l4 c' n hK (fun h hh hl _ => h24 h hh hl) (mem_cg (fun q _ _ => v2_dead w2) hm) (by omega)
    · exact gl_280c hS hR0 eS hP ha h32 h33 l1 w1 q1 n1 k1 h12 l2 w2 hb l4 R 0 c' n (by omega) hK (fun h hh hl _ => h24 h hh hl) hm (by omega)
end Leads3
