/-! ===== secret: both alike, whole ===== -/
section Secret3
variable {c0 c1 c6 c8 c10 c11 c12 c13 : Cl} {d : Ad} {sc st cr B B2 : Nat} {S : Nat → Int32} {A : Nat → Nat} {X R D H Q M L E : Nat} {K : Nat → Nat} {a : Nat → Nat}
theorem lc_sn : ∀ n, lc S n = sn (fun h => if lv S h = 0 then 0 else 1) n
  | 0 => rfl
  | n + 1 => by show lc S n + _ = sn _ n + _; rw [lc_sn n]
theorem gn_lc {q : Nat → Nat} : gn S H a q ≤ lc S H := by
  rw [lc_sn]
  refine sn_le fun h _ => ?_
  by_cases w : lv S h = 0
  · rw [if_pos w, if_pos w]; exact Nat.le_refl _
  · rw [if_neg w, if_neg w]; split <;> omega
/-- the answer -/
def ansS (S : Nat → Int32) (R H : Nat) (x : Option (Nat × Nat)) (w : Nat) : Int32 := match x with
  | none => -2
  | some y => if w = 0 then nI y.1 else if w - 1 < H then (if lv S (w - 1) = 0 then -1 else nI (qs S R H y.2 (w - 1))) else -1
theorem gl_278 {mo aim w : Nat} {cz : Cl} (hS : SR c1 c8 st S R D H Q M L E K) (hR0 : 0 < R) (eS : cA cz 20 B2 = S) (hP : Pw cz B2) (ha : Qok S R H a) (hm : mo < H) (hml : ¬ lv S mo = 0) (ham : aim < R) (hne : aim ≠ a mo) (hw : w ≤ 6) (h32 : ∀ h, h < 6 → cA cz 32 B2 h = nI (qx S H a h)) (h33 : ∀ s, s < Q → cA cz 33 B2 s = nI (lb S H a s)) : ∀ (m c : Nat) (c' : Cl) (lo : Nat), c + m = 46656 → lo ≤ R ^ lc S H → (∀ s, s < R ^ lc S H → (ph S R H s < c ↔ s < lo)) → Kp [24] cz c' → Rn (G_278 B2 0 [nI mo, nI aim, nI w, x4S (fo S R D H a false mo aim (fun _ => false) (lfS S R H Q a) none lo), x5S S R H (fo S R D H a false mo aim (fun _ => false) (lfS S R H Q a) none lo), nI c] [] [] c') (fun r => r.1 = ansS S R H (fo S R D H a false mo aim (fun _ => false) (lfS S R H Q a) none (R ^ lc S H)) w ∧ Kp [24] cz r.2)
  | 0, c, c', lo, hc, hlo, hl, hK => by
    have : c = 46656 := by omega
    subst this
    obtain ⟨⟨-, hR, r6⟩, -, ⟨-, hH, h6⟩, -⟩ := id hS.1.1
    have sz := pow_sz (S := S) r6 h6
    have eN : lo = R ^ lc S H := by
      refine Nat.le_antisymm hlo (Nat.le_of_not_lt fun z => ?_)
      have := (hl lo z).mp (ph_lt hR0 r6 lo)
      omega
    have hN : SnR c1 c8 st (cA c' 20 B2) R D H Q M := by rw [(hK 20 (by decide)).2.2.2.1, eS]; exact hS.1.1
    have eS' : cA c' 20 B2 = S := by rw [(hK 20 (by decide)).2.2.2.1]; exact eS
    have fk := foS_ok (S := S) (D := D) (Q := Q) (a := a) (mo := mo) (aim := aim) hR0 h6 (R ^ lc S H) (Nat.le_refl _)
    rw [eN]
    obtain ⟨x, ex⟩ : ∃ x, x = fo S R D H a false mo aim (fun _ => false) (lfS S R H Q a) none (R ^ lc S H) := ⟨_, rfl⟩
    rw [← ex] at fk ⊢
    rw [G_278]
    refine rn_p (by decide) ?_
    cases x with
    | none => exact rn_n (show ¬ (0 : Int32) ≤ -1 by decide) (rn_r ⟨rfl, hK⟩)
    | some y =>
      obtain ⟨y1, y2, y3⟩ := fk y rfl
      refine rn_p (show (0 : Int32) ≤ nI y.1 from nI_pos' (by omega)) ?_
      by_cases w0 : w = 0
      · subst w0
        exact rn_p rfl (rn_r ⟨rfl, hK⟩)
      · have e1 : nI w - 1 = nI (w - 1) := nI_m1 (by omega)
        have b1 := ph_lt (S := S) (H := H) hR0 r6 y.2
        refine rn_n (nI_ne0 (by omega) (by omega)) ?_
        rw [e1]
        refine rn_e (f_221 hN) ?_
        by_cases wH : w - 1 < H
        · have i1 : is1 H (nI (w - 1)) = 1 := by unfold is1; rw [if_neg (nI_pos (by omega)), if_neg (nI_ge wH (by omega))]
          by_cases wl : lv S (w - 1) = 0
          · refine rn_e (in_neg (by rw [i1]; decide) (ob_mk ((f_224 (by omega)).trans (by rw [eS'])) (in_pos wl rfl))) (rn_r ⟨?_, hK⟩)
            exact ((if_neg w0).trans ((if_pos wH).trans (if_pos wl))).symm
          · have dg := ph_dg (S := S) (H := H) (s := y.2) hR0 r6 h6 wH wl
            have p0 : 0 < 6 ^ (5 - (w - 1)) := Nat.pow_pos (by decide)
            have p1 : 6 ^ (5 - (w - 1)) ≤ 6 ^ 6 := Nat.pow_le_pow_right (by decide) (by omega)
            have p2 : (6 : Nat) ^ 6 = 46656 := rfl
            have dl : ph S R H y.2 / 6 ^ (5 - (w - 1)) ≤ ph S R H y.2 := Nat.div_le_self _ _
            refine rn_e (in_neg (by rw [i1]; decide) (ob_mk ((f_224 (by omega)).trans (by rw [eS'])) (in_neg wl (ob_mk (v := nI (6 ^ (5 - (w - 1)))) ((ald_ok (by omega) (by decide)).trans (by rw [(hK 25 (by decide)).2.2.2.1, hP _ (by omega)])) (ob_mk (v := nI (ph S R H y.2 / 6 ^ (5 - (w - 1)))) (by unfold idv; rw [if_neg (nI_ne0 p0 (by omega))]; exact congrArg some (pk_div (by omega) p0 (by omega))) (ob_mk (v := nI (qs S R H y.2 (w - 1))) ((irm_ok (y := 6) (by omega) (by decide) (by decide)).trans (by rw [dg])) rfl)))))) (rn_r ⟨?_, hK⟩)
            exact ((if_neg w0).trans ((if_pos wH).trans (if_neg wl))).symm
        · have i1 : is1 H (nI (w - 1)) = 0 := by unfold is1; rw [if_neg (nI_pos (by omega)), if_pos (nI_le (by omega) (by omega))]
          refine rn_e (in_pos i1 rfl) (rn_r ⟨?_, hK⟩)
          exact ((if_neg w0).trans (if_neg wH)).symm
  | m + 1, c, c', lo, hc, hlo, hl, hK => by
    obtain ⟨⟨-, hR, r6⟩, -, ⟨-, hH, h6⟩, -⟩ := id hS.1.1
    have eS' : cA c' 20 B2 = S := by rw [(hK 20 (by decide)).2.2.2.1]; exact eS
    have p0 : 0 < 6 ^ (5 - mo) := Nat.pow_pos (by decide)
    have p1 : 6 ^ (5 - mo) ≤ 6 ^ 6 := Nat.pow_le_pow_right (by decide) (by omega)
    have p2 : (6 : Nat) ^ 6 = 46656 := rfl
    have dl : c / 6 ^ (5 - mo) ≤ c := Nat.div_le_self _ _
    have dm : c / 6 ^ (5 - mo) % 6 < 6 := Nat.mod_lt _ (by decide)
    have go : ∀ (lo' : Nat) (c'' : Cl), lo' ≤ R ^ lc S H → (∀ s, s < R ^ lc S H → (ph S R H s < c + 1 ↔ s < lo')) → Kp [24] cz c'' → Rn (G_278 B2 0 [nI mo, nI aim, nI w, x4S (fo S R D H a false mo aim (fun _ => false) (lfS S R H Q a) none lo'), x5S S R H (fo S R D H a false mo aim (fun _ => false) (lfS S R H Q a) none lo'), nI c + 1] [] [] c'') (fun r => r.1 = ansS S R H (fo S R D H a false mo aim (fun _ => false) (lfS S R H Q a) none (R ^ lc S H)) w ∧ Kp [24] cz r.2) := fun lo' c'' g1 g2 g3 => by
      rw [nI_1]; exact gl_278 hS hR0 eS hP ha hm hml ham hne hw h32 h33 m (c + 1) c'' lo' (by omega) g1 g2 g3
    rw [G_278]
    refine rn_n (show ¬ (46656 : Int32) ≤ nI c from nI_ge (a := c) (b := 46656) (by omega) (by decide)) (rn_e (v := nI (6 ^ (5 - mo))) ((ald_ok (by omega) (by decide)).trans (by rw [(hK 25 (by decide)).2.2.2.1, hP mo (by omega)])) (rn_e (v := nI (c / 6 ^ (5 - mo))) (by unfold idv; rw [if_neg (nI_ne0 p0 (by omega))]; exact congrArg some (pk_div (by omega) p0 (by omega))) (rn_e (v := nI (c / 6 ^ (5 - mo) % 6)) (irm_ok (y := 6) (by omega) (by decide) (by decide)) ?_)))
    have sokp := sok_ph (S := S) (H := H) hR0 r6 h6 (show c < 46656 by omega)
    have l255 := f_255 (c12 := c') (B2 := B2) (q := dg 6 6 c) (fun h _ => dg_lt (by decide)) (pw_k hK (by decide) hP)
    rw [cd_dg (by decide) (show c < 6 ^ 6 by omega)] at l255
    obtain ⟨r1, q1, q2, q3⟩ := l255
    have k1 := kp_tr hK q2
    have eS1 : cA r1 20 B2 = S := by rw [(k1 20 (by decide)).2.2.2.1]; exact eS
    obtain ⟨v, g1, g2⟩ := gl_257 (c := r1) (B2 := B2) (p := dg 6 6 c) hS eS1 (fun h hh => ⟨q3 h hh, dg_lt (by decide)⟩) 6 0 rfl (fun h hh => absurd hh (Nat.not_lt_zero _))
    have f257 : F_257 c' B2 (nI c) = some (v, r1) := by unfold F_257; exact ob_mk q1 g1
    by_cases im : psi S R H c < R ^ lc S H ∧ ph S R H (psi S R H c) = c
    · obtain ⟨s, es⟩ : ∃ s, s = psi S R H c := ⟨_, rfl⟩
      rw [← es] at im
      have v1 : v = 1 := by
        rcases g2 with g | g
        · exact g.1
        · exact absurd (sokp.mpr (by rw [← es]; exact im)) g.2
      have elo : lo = s := by
        refine Nat.le_antisymm (Nat.le_of_not_lt fun z => ?_) (Nat.le_of_not_lt fun z => ?_)
        · have := (hl s im.1).mpr z
          omega
        · have := (hl lo (by omega)).mp (by have := ph_mono (S := S) hR0 r6 h6 (show lo < R ^ lc S H by omega) im.1 z; omega)
          omega
      rw [elo]
      have l' : ∀ t, t < R ^ lc S H → (ph S R H t < c + 1 ↔ t < s + 1) := fun t ht => by
        constructor
        · intro z
          refine Nat.lt_of_not_le fun y => ?_
          have := ph_mono (S := S) hR0 r6 h6 im.1 ht (show s < t by omega)
          omega
        · intro z
          by_cases y : t = s
          · rw [y]; omega
          · have := ph_mono (S := S) hR0 r6 h6 ht im.1 (show t < s by omega)
            omega
      have fs : fo S R D H a false mo aim (fun _ => false) (lfS S R H Q a) none (s + 1) = @ite _ (adm S R D H a false mo aim s) (Classical.propDecidable _) (lfS S R H Q a (qs S R H s) (fo S R D H a false mo aim (fun _ => false) (lfS S R H Q a) none s)) (fo S R D H a false mo aim (fun _ => false) (lfS S R H Q a) none s) := rfl
      have fk := foS_ok (S := S) (D := D) (Q := Q) (a := a) (mo := mo) (aim := aim) hR0 h6 s (by omega)
      have go' := go (s + 1)
      obtain ⟨x, ex⟩ : ∃ x, x = fo S R D H a false mo aim (fun _ => false) (lfS S R H Q a) none s := ⟨_, rfl⟩
      rw [fs] at go'
      rw [← ex] at go' fk ⊢
      have dgq := ph_dg (S := S) (H := H) (s := s) hR0 r6 h6 hm hml
      rw [im.2] at dgq
      rw [dgq]
      have ql := qs_ok (S := S) (H := H) hR0 s mo hm hml
      by_cases y1 : qs S R H s mo = aim
      · refine rn_p (by rw [y1]) (rn_e f257 ?_)
        rw [v1]
        refine rn_n (show ¬ (1 : Int32) = 0 by decide) ?_
        have e24 : ∀ h, h < 6 → cA r1 24 B2 h = nI (qx S H (qs S R H s) h) := fun h hh => by
          rw [q3 h hh]
          have := dg_cd (b := 6) (p := qx S H (qs S R H s)) (n := 6) (by decide) (qx_lt (qs_ok hR0 s) r6) h hh
          rw [← this]
          congr 2
          exact im.2.symm
        obtain ⟨u, u1, u2⟩ := gl_277 (c := r1) (B2 := B2) (q := qs S R H s) hS eS1 (qs_ok hR0 s) ha e24 (fun h hh => by rw [(k1 32 (by decide)).2.2.2.1]; exact h32 h hh) H 0 (by omega) (fun h hh => absurd hh (Nat.not_lt_zero _))
        have f277 : F_277 r1 B2 = some u := by unfold F_277; exact u1
        refine rn_e f277 ?_
        rcases u2 with ⟨ue, ul⟩ | ⟨ue, ul⟩
        · have ad : adm S R D H a false mo aim s := fun h hh hl' => by
            unfold okh
            by_cases z : qs S R H s h = a h
            · rw [if_pos z]
              by_cases z2 : h = mo
              · rw [z2, y1] at z; exact absurd z hne
              · simp [z2]
            · rw [if_neg z]
              have lk : ¬ bit1 (bs S (nI (a h)) D) (nI (qs S R H s h)) = 0 := by
                rcases ul h hh with e | e | e
                · exact absurd e hl'
                · exact absurd e z
                · exact e
              rw [decide_eq_true lk]
              by_cases z2 : h = mo
              · rw [z2, y1]; simp
              · simp [z2]
          rw [if_pos ad] at go'
          have gp := gn_pos (S := S) (H := H) (a := a) (q := qs S R H s) hm hml (by rw [y1]; exact hne)
          have gl := gn_le (S := S) (H := H) (a := a) (q := qs S R H s)
          have gc := gn_lc (S := S) (H := H) (a := a) (q := qs S R H s)
          rw [ue]
          refine rn_n (nI_pos (by omega)) ?_
          have f276 := f_276 (a := a) (c := r1) (B2 := B2) (q := qs S R H s) hS eS1 (qs_ok hR0 s) (fun h hh hl' => by rw [e24 h (by omega), qx_l hh hl']) (fun s hs => by rw [(k1 33 (by decide)).2.2.2.1]; exact h33 s hs)
          have lab1 : gn S H a (qs S R H s) ≤ mgS (lc S H) x → Rn (G_278 B2 1 [nI mo, nI aim, nI w, x4S x, x5S S R H x, nI c, nI (gn S H a (qs S R H s))] [] [] r1) (fun r => r.1 = ansS S R H (fo S R D H a false mo aim (fun _ => false) (lfS S R H Q a) none (R ^ lc S H)) w ∧ Kp [24] cz r.2) := fun hg => by
            rw [G_278]
            refine rn_e f276 ?_
            by_cases z : se S H Q (qs S R H s) = se S H Q a ∧ hlb S H (qs S R H s) R = true
            · have el : lfS S R H Q a (qs S R H s) x = some (gn S H a (qs S R H s), kc S R H (qs S R H s)) := by unfold lfS; rw [if_pos ⟨by omega, hg, z.1, z.2⟩]
              rw [el, kc_qs hR0 im.1] at go'
              rw [if_pos z]
              refine rn_e (in_neg (by decide) rfl) ?_
              have g := go' r1 (by omega) l' k1
              rw [show x5S S R H (some (gn S H a (qs S R H s), s)) = nI c by show nI (ph S R H s) = nI c; rw [im.2]] at g
              exact g
            · have el : lfS S R H Q a (qs S R H s) x = x := by unfold lfS; rw [if_neg (fun y => z y.2.2)]
              rw [el] at go'
              rw [if_neg z]
              exact rn_e (in_pos rfl rfl) (go' r1 (by omega) l' k1)
          cases x with
          | none => exact rn_p (show (-1 : Int32) < 0 by decide) (lab1 gc)
          | some y =>
            obtain ⟨f1, f2, f3⟩ := fk y rfl
            refine rn_n (show ¬ nI y.1 < 0 from nI_pos (by omega)) ?_
            by_cases z : y.1 ≤ gn S H a (qs S R H s)
            · have el : lfS S R H Q a (qs S R H s) (some y) = some y := lfS_no (by show y.1 - 1 < _; omega)
              rw [el] at go'
              exact rn_p (show nI y.1 ≤ nI (gn S H a (qs S R H s)) from nI_le z (by omega)) (go' r1 (by omega) l' k1)
            · exact rn_n (show ¬ nI y.1 ≤ nI (gn S H a (qs S R H s)) from nI_ge (by omega) (by omega)) (lab1 (by show _ ≤ y.1 - 1; omega))
        · have na : ¬ adm S R D H a false mo aim s := fun z => ul fun h hh => by
            by_cases hl' : lv S h = 0
            · exact Or.inl hl'
            · have := z h hh hl'
              unfold okh at this
              by_cases e : qs S R H s h = a h
              · exact Or.inr (Or.inl e)
              · rw [if_neg e, Bool.and_eq_true] at this
                exact Or.inr (Or.inr (of_decide_eq_true this.1))
          rw [if_neg na] at go'
          rw [ue]
          exact rn_p (by decide) (go' r1 (by omega) l' k1)
      · have na : ¬ adm S R D H a false mo aim s := fun z => by
          have := z mo hm hml
          unfold okh at this
          by_cases e : qs S R H s mo = a mo
          · rw [if_pos e] at this; simp at this
          · rw [if_neg e] at this; simp [y1] at this
        rw [if_neg na] at go'
        exact rn_n (fun z => y1 ((nI_eq (by omega) (by omega)).mp z)) (go' c' (by omega) l' hK)
    · have v0 : v = 0 := by
        rcases g2 with g | g
        · exact absurd (sokp.mp g.2) im
        · exact g.1
      have l' : ∀ t, t < R ^ lc S H → (ph S R H t < c + 1 ↔ t < lo) := fun t ht => by
        have ne : ph S R H t ≠ c := fun e => im (by rw [← e, psi_ph hR0 r6 h6 ht]; exact ⟨ht, rfl⟩)
        rw [← hl t ht]; omega
      by_cases y1 : nI (c / 6 ^ (5 - mo) % 6) = nI aim
      · refine rn_p y1 (rn_e f257 ?_)
        rw [v0]
        exact rn_p rfl (go lo r1 hlo l' k1)
      · exact rn_n y1 (go lo c' hlo l' hK)
/-- the room of a head behind it, by the class -/
theorem gl_3 {w : Nat} {q : Nat → Nat} (hS : SR c1 c8 st S R D H Q M L E K) (hC : SC c6 sc S R D H Q) (hA : AT c6 sc S R H q) (e0 : cR c0 0 cr = sc) (hw : w < 6) : ∀ m i, i + m = lc S H → (∀ j, j < i → nbf S H j ≠ w) → G_3 c0 c6 cr 0 [nI w, nI i] [] [] = some (if w < H then (if lv S w = 0 then -1 else nI (q w)) else -1, c6)
  | 0, i, hi, hb => by
    have : i = lc S H := by omega
    subst this
    have ll := lc_le S H
    have h6 := hS.1.1.2.2.1.2.2
    rw [G_3, e0, hC.2.1]
    refine in_pos (nI_le (Nat.le_refl _) (by omega)) ?_
    by_cases w1 : w < H
    · rw [if_pos w1]
      by_cases w2 : lv S w = 0
      · rw [if_pos w2]
      · exact absurd (nbf_lc w1 w2) (hb _ (lc_lt w1 w2))
    · rw [if_neg w1]
  | m + 1, i, hi, hb => by
    have ll := lc_le S H
    have h6 := hS.1.1.2.2.1.2.2
    obtain ⟨b1, b2, b3⟩ := nbf_ok (S := S) (n := H) (i := i) (by omega)
    rw [G_3, e0, hC.2.1]
    refine in_neg (nI_ge (by omega) (by omega)) (ob_mk (v := nI (nbf S H i)) ((ald_ok (by omega) (by decide)).trans (by rw [(hC.2.2.2.1 i (by omega)).1])) ?_)
    by_cases y : nbf S H i = w
    · refine in_pos (by rw [y]) (ob_mk (v := nI (q w)) ((ald_ok (by omega) (by decide)).trans (by rw [hA.1 i (by omega), y])) ?_)
      rw [← y, if_pos b1, if_neg b2]
    · refine in_neg (fun z => y ((nI_eq (by omega) (by omega)).mp z)) ?_
      rw [nI_1]
      exact gl_3 hS hC hA e0 hw m (i + 1) (by omega) (fun j hj => by
        by_cases z : j = i
        · rw [z]; exact y
        · exact hb j (by omega))
end Secret3
