/-! ===== theft: all leads, by the reference: the first that goes ===== -/
section Leads4
variable {c1 c8 : Cl} {st B2 : Nat} {S : Nat → Int32} {R D H Q M L E : Nat} {K : Nat → Nat} {a : Nat → Nat} {cz : Cl} {Po : Cl → Prop}
theorem gl_280a {h1 : Nat} (hS : SR c1 c8 st S R D H Q M L E K) (hR0 : 0 < R) (eS : cA cz 20 B2 = S) (hP : Pw cz B2) (ha : Qok S R H a) (h32 : ∀ h, h < 6 → cA cz 32 B2 h = nI (qx S H a h)) (h33 : ∀ s, s < Q → cA cz 33 B2 s = nI (lb S H a s)) (l1 : h1 < H) (w1 : ¬ lv S h1 = 0) (ks : ∀ (c' : Cl) (n : Nat), Kp [24, 38, 39] cz c' → (∀ h, h < H → ¬ lv S h = 0 → h ≠ h1 → cA c' 24 B2 h = nI (a h)) → Mem S R D H Q a B2 (V1 S H a (h1 + 1) 0) n c' → n ≤ wb (h1 + 1) → Rn (G_280 B2 5 [nI (kr S H a), nI h1] [] [] c') Po) : ∀ (m r1 : Nat) (c' : Cl) (n : Nat), r1 + m = R → Kp [24, 38, 39] cz c' → (∀ h, h < H → ¬ lv S h = 0 → h ≠ h1 → cA c' 24 B2 h = nI (a h)) → Mem S R D H Q a B2 (V1 S H a h1 r1) n c' → n ≤ wb h1 + ctr (a h1) r1 * (26 - 5 * h1) → Rn (G_280 B2 1 [nI (kr S H a), nI h1, nI r1] [] [] c') Po
  | 0, r1, c', n, hr, hK, h24, hm, hn => by
    have : r1 = R := by omega
    subst this
    obtain ⟨⟨-, hR, r6⟩, -, ⟨-, -, h6⟩, -⟩ := id hS.1.1
    have eS' : cA c' 20 B2 = S := by rw [(hK 20 (by decide)).2.2.2.1]; exact eS
    have c5 := ctr_5 (ha h1 l1 w1) r6
    have mm := Nat.mul_le_mul_right (26 - 5 * h1) c5
    rw [G_280, eS']
    refine rn_e al_0 (rn_p (by rw [hR]; exact nI_le (Nat.le_refl _) (by omega)) (ks c' n hK h24 (mem_cg (fun q q1 _ => v1_row q1) hm) ?_))
    show n ≤ wb h1 + 5 * (26 - 5 * h1)
    omega
  | m + 1, r1, c', n, hr, hK, h24, hm, hn => by
    obtain ⟨⟨-, hR, r6⟩, ⟨-, hD, d10⟩, ⟨-, -, h6⟩, -⟩ := id hS.1.1
    have eS' : cA c' 20 B2 = S := by rw [(hK 20 (by decide)).2.2.2.1]; exact eS
    have a1 := ha h1 l1 w1
    have e32 : cA c' 32 B2 h1 = nI (a h1) := by rw [(hK 32 (by decide)).2.2.2.1, h32 h1 (by omega), qx_l l1 w1]
    rw [G_280]
    refine rn_e (by rw [eS']; exact al_0) (rn_n (by rw [hR]; exact nI_ge (by omega) (by omega)) (rn_e (v := lv S h1) ((f_224 (by omega)).trans (by rw [eS'])) (rn_n w1 (rn_ld (by omega) (by decide) ?_))))
    rw [e32]
    refine rn_e (v := bs S (nI (a h1)) D) ((f_232 (by rw [eS']; exact hD) d10).trans (by rw [eS'])) (rn_e (f_171 _ _) ?_)
    by_cases y : bit1 (bs S (nI (a h1)) D) (nI r1) = 0
    · refine rn_p y ?_
      rw [nI_1]
      have mm := Nat.mul_le_mul_right (26 - 5 * h1) (ctr_m (x := a h1) (r := r1))
      exact gl_280a hS hR0 eS hP ha h32 h33 l1 w1 ks m (r1 + 1) c' n (by omega) hK h24 (mem_cg (fun q _ q2 => v1_skip q2 (Or.inr y)) hm) (by omega)
    · have n1 : r1 ≠ a h1 := fun z => y (by rw [z]; exact no_self hS a1)
      have q1 : r1 < R := by omega
      have c1' := ctr_s (x := a h1) (r := r1) n1
      have c4 := ctr_4 a1 q1 n1 r6
      have mm := Nat.mul_le_mul_right (26 - 5 * h1) c4
      have w5 := wb_405 (show h1 < 6 by omega)
      refine rn_n y (rn_st (by omega) (by decide) ?_)
      obtain ⟨t, ht⟩ : ∃ t, t = sA c' 24 B2 (upd (cA c' 24 B2) h1 (nI r1)) := ⟨_, rfl⟩
      rw [← ht]
      have kt : Kp [24] c' t := by rw [ht]; exact kp_A (by decide)
      have kz : Kp [24, 38, 39] cz t := kp_tr hK (kp_wd kt (by decide))
      have t24 : ∀ h, h < H → ¬ lv S h = 0 → cA t 24 B2 h = nI (mv a h1 r1 h) := fun h hh hl => by
        rw [ht, cA_same]
        by_cases z : h = h1
        · rw [z, pk_us]; exact congrArg nI (if_pos rfl).symm
        · rw [pk_un z, h24 h hh hl z]; exact congrArg nI (if_neg z).symm
      have qa1 : Qok S R H (mv a h1 r1) := mv_ok ha q1
      have g1 : gn S H a (mv a h1 r1) = 1 := by rw [gn_mv l1 w1 rfl n1, gn_0]
      have hL : ∀ h, h < H → ¬ lv S h = 0 → lkq S D a h (mv a h1 r1 h) := fun h hh hl => by
        show lkq S D a h (if h = h1 then r1 else a h)
        by_cases z' : h = h1
        · rw [if_pos z', z']; exact Or.inr y
        · rw [if_neg z']; exact Or.inl rfl
      have eSt : cA t 20 B2 = S := by rw [(kz 20 (by decide)).2.2.2.1]; exact eS
      have ek := kr_mv hR0 h6 (r := r1) ha q1 l1 w1
      refine rn_e (v := nI (6 ^ (5 - h1))) ((ald_ok (by omega) (by decide)).trans (by rw [(kz 25 (by decide)).2.2.2.1, hP h1 (by omega)])) (rn_e (v := nI (a h1)) ((ald_ok (by omega) (by decide)).trans (by rw [(kt 32 (by decide)).2.2.2.1, e32])) ?_)
      rw [ek]
      obtain ⟨r, f6, hr2⟩ := push_ok (a := a) (V := V1 S H a h1 r1) (v := nI (kr S H (mv a h1 r1))) hS hR0 eSt qa1 ⟨hL, by omega, by omega⟩ t24 (fun s hs => by rw [(kz 33 (by decide)).2.2.2.1]; exact h33 s hs) rfl (show n < 420 by omega) (fun q hq hv => by
        have e1 : q h1 = r1 := by rw [hq h1 l1 w1]; exact if_pos rfl
        have ev : ∀ j, j < H → ¬ lv S j = 0 → j ≠ h1 → q j = a j := fun j hj hl j1 => by rw [hq j hj hl]; exact if_neg j1
        obtain ⟨i, i1, i2, i3, i4, i5⟩ := hv
        rcases i5 with i5 | ⟨i5, i6⟩
        · exact i3 (ev i i1 i2 (by omega))
        · rw [i5, e1] at i6; omega) (mem_k kt (by decide) (by decide) hm)
      refine rn_e f6 ?_
      refine rn_b (P := fun t => Kp [24, 38, 39] cz t ∧ (∀ h, h < H → ¬ lv S h = 0 → cA t 24 B2 h = nI (mv a h1 r1 h)) ∧ ∃ n', n' ≤ n + 1 ∧ Mem S R D H Q a B2 (V2 S H a h1 r1 (h1 + 1) 0) n' t) ?_ (fun t ⟨t1, t2, n', t3, t4⟩ => ?_)
      · have m' : ∀ x y, Mem S R D H Q a B2 (fun q => V1 S H a h1 r1 q ∨ agr S H q (mv a h1 r1)) x y → Mem S R D H Q a B2 (V2 S H a h1 r1 (h1 + 1) 0) x y := fun x y hx => mem_cg (fun q _ _ => v_single l1 w1) hx
        rcases hr2 with ⟨z, hz⟩ | ⟨z, hz⟩
        · exact rn_p z (rn_r ⟨kz, t24, n, by omega, m' _ _ hz⟩)
        · refine rn_n z (rn_b hz (fun c ⟨kc', hc⟩ => rn_r ⟨kp_tr kz (kp_wd kc' (by decide)), fun h hh hl => ?_, n + 1, by omega, m' _ _ hc⟩))
          rw [(kc' 24 (by decide)).2.2.2.1, t24 h hh hl]
      · rw [nI_1]
        refine gl_280b (B0 := wb h1 + ctr (a h1) r1 * (26 - 5 * h1)) hS hR0 eS hP ha h32 h33 l1 w1 q1 n1 y (by omega) (fun c' n hK h24 hm hn => ?_) (H - (h1 + 1)) (h1 + 1) t n' (by omega) (by omega) t1 t2 t4 (by omega)
        refine gl_280a hS hR0 eS hP ha h32 h33 l1 w1 ks m (r1 + 1) c' n (by omega) hK (fun h hh hl hne => ?_) (mem_cg (fun q _ _ => v2_end l1 w1 n1) hm) ?_
        · rw [h24 h hh hl]; exact congrArg nI (if_neg hne)
        · rw [c1', Nat.succ_mul]; omega
theorem gl_280 (hS : SR c1 c8 st S R D H Q M L E K) (hR0 : 0 < R) (eS : cA cz 20 B2 = S) (hP : Pw cz B2) (ha : Qok S R H a) (h32 : ∀ h, h < 6 → cA cz 32 B2 h = nI (qx S H a h)) (h33 : ∀ s, s < Q → cA cz 33 B2 s = nI (lb S H a s)) : ∀ (m h1 : Nat) (c' : Cl) (n : Nat), h1 + m = H → Kp [24, 38, 39] cz c' → (∀ h, h < H → ¬ lv S h = 0 → cA c' 24 B2 h = nI (a h)) → Mem S R D H Q a B2 (V1 S H a h1 0) n c' → n ≤ wb h1 → Rn (G_280 B2 0 [nI (kr S H a), nI h1] [] [] c') (fun r => Kp [24, 38, 39] cz r ∧ ∃ n, n ≤ 405 ∧ Mem S R D H Q a B2 (fun _ => True) n r)
  | 0, h1, c', n, hh, hK, h24, hm, hn => by
    have : h1 = H := by omega
    subst this
    obtain ⟨-, -, ⟨-, hH, h6⟩, -⟩ := id hS.1.1
    have eS' : cA c' 20 B2 = S := by rw [(hK 20 (by decide)).2.2.2.1]; exact eS
    rw [G_280, eS']
    refine rn_e al_2 (rn_p (by rw [hH]; exact nI_le (Nat.le_refl _) (by omega)) (rn_r ⟨hK, n, ?_, mem_cg (fun q _ q2 => ⟨fun _ => trivial, fun _ => v1_all q2⟩) hm⟩))
    by_cases w : h1 = 6
    · subst w
      have : wb 6 = 405 := by decide
      omega
    · have := wb_405 (show h1 < 6 by omega); omega
  | m + 1, h1, c', n, hh, hK, h24, hm, hn => by
    obtain ⟨⟨-, hR, r6⟩, -, ⟨-, hH, h6⟩, -⟩ := id hS.1.1
    have eS' : cA c' 20 B2 = S := by rw [(hK 20 (by decide)).2.2.2.1]; exact eS
    have l1 : h1 < H := by omega
    rw [G_280, eS']
    refine rn_e al_2 (rn_n (by rw [hH]; exact nI_ge l1 (by omega)) ?_)
    have l5 : ∀ (c' : Cl) (n : Nat), Kp [24, 38, 39] cz c' → (∀ h, h < H → ¬ lv S h = 0 → h ≠ h1 → cA c' 24 B2 h = nI (a h)) → Mem S R D H Q a B2 (V1 S H a (h1 + 1) 0) n c' → n ≤ wb (h1 + 1) → Rn (G_280 B2 5 [nI (kr S H a), nI h1] [] [] c') (fun r => Kp [24, 38, 39] cz r ∧ ∃ n, n ≤ 405 ∧ Mem S R D H Q a B2 (fun _ => True) n r) := fun c' n hK h24 hm hn => by
      rw [G_280]
      refine rn_ld (by omega) (by decide) (rn_st (by omega) (by decide) ?_)
      rw [nI_1, (hK 32 (by decide)).2.2.2.1, h32 h1 (by omega)]
      refine gl_280 hS hR0 eS hP ha h32 h33 m (h1 + 1) _ n (by omega) (kp_tr hK (kp_A (by decide))) (fun h hh hl => ?_) (mem_k (Ks := [24]) (kp_A (by decide)) (by decide) (by decide) hm) hn
      rw [cA_same]
      by_cases z : h = h1
      · rw [z] at hl ⊢
        rw [pk_us, qx_l l1 hl]
      · rw [pk_un z]; exact h24 h hh hl z
    by_cases w1 : lv S h1 = 0
    · show Rn (G_280 B2 1 [nI (kr S H a), nI h1, nI 0] [] [] c') _
      rw [G_280]
      refine rn_e (by rw [eS']; exact al_0) (rn_n (by rw [hR]; exact nI_ge hR0 (by omega)) (rn_e (v := lv S h1) ((f_224 (by omega)).trans (by rw [eS'])) (rn_p w1 ?_)))
      refine l5 c' n hK (fun h hh hl _ => h24 h hh hl) (mem_cg (fun q _ _ => v1_dead w1) hm) ?_
      show n ≤ wb h1 + 5 * (26 - 5 * h1)
      omega
    · exact gl_280a hS hR0 eS hP ha h32 h33 l1 w1 l5 R 0 c' n (by omega) hK (fun h hh hl _ => h24 h hh hl) hm (by omega)
theorem f_280 {c : Cl} {s : Nat} (hS : SR c1 c8 st S R D H Q M L E K) (hR0 : 0 < R) (eS : cA c 20 B2 = S) (hP : Pw c B2) : Rn (F_280 c B2 (nI (ph S R H s))) (fun r => Kp [24, 32, 33, 38, 39] c r ∧ ∃ n, n ≤ 405 ∧ Mem S R D H Q (qs S R H s) B2 (fun _ => True) n r) := by
  obtain ⟨⟨-, hR, r6⟩, -, ⟨-, hH, h6⟩, -⟩ := id hS.1.1
  unfold F_280
  refine rn_b (f_275 (s := s) hS hR0 eS hP) (fun r1 ⟨k1, g32, g24, g33⟩ => rn_s ?_)
  have kz : Kp [39] r1 (sI r1 39 B2 0) := kp_I (by decide)
  have kk : Kp [24, 32, 33, 38, 39] c (sI r1 39 B2 0) := kp_tr (kp_wd k1 (by decide)) (kp_wd kz (by decide))
  refine rn_m (gl_280 (a := qs S R H s) hS hR0 (by rw [(kk 20 (by decide)).2.2.2.1]; exact eS) (fun i hi => by rw [(kk 25 (by decide)).2.2.2.1]; exact hP i hi) (qs_ok hR0 s) (fun h hh => by rw [(kz 32 (by decide)).2.2.2.1]; exact g32 h hh) (fun x hx => by rw [(kz 33 (by decide)).2.2.2.1]; exact g33 x hx) H 0 _ 0 (by omega) (kp_rf _ _) (fun h hh hl => by rw [(kz 24 (by decide)).2.2.2.1, g24 h (by omega), qx_l hh hl]) ⟨fun _ => 0, ⟨by rw [cI_same]; rfl, fun j hj => absurd hj (Nat.not_lt_zero _), fun i j _ hj => absurd hj (Nat.not_lt_zero _)⟩, fun x => ⟨fun ⟨j, hj, _⟩ => absurd hj (Nat.not_lt_zero _), fun ⟨q, _, _, hq, _⟩ => absurd hq v1_none⟩⟩ (Nat.zero_le _)) (fun r ⟨k2, n, hn, hm⟩ => ⟨kp_tr kk (kp_wd k2 (by decide)), n, hn, hm⟩)
end Leads4
