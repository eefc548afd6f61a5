/-! ===== theft: the reference, one situation after the other ===== -/
def RT (c : Cl) (B2 : Nat) (S : Nat → Int32) (R H : Nat) (x : Tq) : Prop := (∀ j, j < tn x → cA c 34 B2 j = nI (ph S R H (tu x j)) ∧ cA c 35 B2 j = nI (tm x (tu x j)) ∧ cA c 36 B2 j = nI (tk x (tu x j) - 1)) ∧ (∀ t, t < R ^ lc S H → cA c 37 B2 (ph S R H t) = if tk x t = 0 then 0 else 1)
section Steals
variable {c1 c8 : Cl} {st B2 : Nat} {S : Nat → Int32} {R D H Q M L E : Nat} {K : Nat → Nat} {mo aim : Nat}
/-- what comes one after the other, as far as leads go -/
def FX (S : Nat → Int32) (R D H Q mo aim gb mi s : Nat) (x0 : Tq) (fx : Nat → Tq) : Prop := fx 0 = x0 ∧ (∀ t, te (fx t) = 0 → ¬ LQ S R D H Q (qs S R H s) (qs S R H t) → fx (t + 1) = fx t) ∧ (∀ t, t < R ^ lc S H → te (fx t) = 0 → LQ S R D H Q (qs S R H s) (qs S R H t) → fx (t + 1) = come aim gb mi t (qs S R H t mo) (gn S H (qs S R H s) (qs S R H t)) (fx t)) ∧ (∀ t, te (fx t) ≠ 0 → fx (t + 1) = fx t) ∧ ∀ t, TI S R H Q (fx t) ∧ TX x0 (fx t) (mi + 1)
theorem FX_fo {gb mi s k : Nat} {x0 : Tq} (hR : 0 < R) (hx : TI S R H Q x0) (hse : se S H Q (qs S R H s) = se S H Q (q0 S)) (hk : k < tn x0) (hgb : gb ≤ 2 * k) : FX S R D H Q mo aim gb mi s x0 (fo S R D H (qs S R H s) true mo aim enT (lfT S R H Q mo aim gb mi (qs S R H s)) x0) := by
  obtain ⟨f, hf⟩ : ∃ f, f = fo S R D H (qs S R H s) true mo aim enT (lfT S R H Q mo aim gb mi (qs S R H s)) x0 := ⟨_, rfl⟩
  have e : ∀ t, f (t + 1) = if enT (f t) = true then f t else @ite _ (adm S R D H (qs S R H s) true mo aim t) (Classical.propDecidable _) (lfT S R H Q mo aim gb mi (qs S R H s) (qs S R H t) (f t)) (f t) := fun t => by rw [hf]; rfl
  have en0 : ∀ t, te (f t) = 0 → ¬ enT (f t) = true := fun t h z => by
    unfold enT at z
    exact (of_decide_eq_true z) h
  have ad : ∀ t, adm S R D H (qs S R H s) true mo aim t ↔ ∀ h, h < H → ¬ lv S h = 0 → lkq S D (qs S R H s) h (qs S R H t h) := fun t => by
    unfold adm
    constructor
    · intro h k hk hl
      have := h k hk hl
      unfold okh at this
      by_cases w : qs S R H t k = qs S R H s k
      · exact Or.inl w
      · rw [if_neg w, Bool.true_or, Bool.true_or, Bool.and_true] at this
        exact Or.inr (of_decide_eq_true this)
    · intro h k hk hl
      unfold okh
      by_cases w : qs S R H t k = qs S R H s k
      · rw [if_pos w]; rfl
      · rw [if_neg w, Bool.true_or, Bool.true_or, Bool.and_true]
        rcases h k hk hl with z | z
        · exact absurd z w
        · exact decide_eq_true z
  rw [← hf]
  refine ⟨by rw [hf]; rfl, fun t h0 hn => ?_, fun t ht h0 hl => ?_, fun t h0 => ?_, fun t => by rw [hf]; exact foT_ok hR hx hse hk hgb t⟩
  · rw [e t, if_neg (en0 t h0)]
    by_cases w : adm S R D H (qs S R H s) true mo aim t
    · rw [if_pos w]
      unfold lfT
      rw [if_neg (fun z => hn ⟨(ad t).mp w, z⟩)]
    · rw [if_neg w]
  · rw [e t, if_neg (en0 t h0), if_pos ((ad t).mpr hl.1)]
    unfold lfT
    rw [if_pos hl.2, kc_qs hR ht]
  · rw [e t, if_pos (by unfold enT; exact decide_eq_true h0)]
theorem FX_skip {gb mi s : Nat} {x0 : Tq} {fx : Nat → Tq} (hF : FX S R D H Q mo aim gb mi s x0 fx) {lo : Nat} (h0 : te (fx lo) = 0) : ∀ m, (∀ t, lo ≤ t → t < lo + m → ¬ LQ S R D H Q (qs S R H s) (qs S R H t)) → fx (lo + m) = fx lo
  | 0, _ => rfl
  | m + 1, h => by
    have ih := FX_skip hF h0 m (fun t t1 t2 => h t t1 (by omega))
    have := hF.2.1 (lo + m) (by rw [ih]; exact h0) (h _ (by omega) (by omega))
    rw [← ih, ← this]; rfl
theorem FX_end {gb mi s : Nat} {x0 : Tq} {fx : Nat → Tq} (hF : FX S R D H Q mo aim gb mi s x0 fx) {lo : Nat} (h0 : te (fx lo) ≠ 0) : ∀ m, fx (lo + m) = fx lo
  | 0 => rfl
  | m + 1 => by
    have ih := FX_end hF h0 m
    have := hF.2.2.2.1 (lo + m) (by rw [ih]; exact h0)
    rw [← ih, ← this]; rfl
/-- the leads of one situation -/
theorem gl_282b {gb mi k n : Nat} {x0 : Tq} {fx : Nat → Tq} {cz : Cl} {g : Nat → Nat} {Po : Int32 × Cl → Prop} (hS : SR c1 c8 st S R D H Q M L E K) (hR0 : 0 < R) (hm : mo < H) (hml : ¬ lv S mo = 0) (ham : aim < R) (hP : Pw cz B2) (hF : FX S R D H Q mo aim gb mi (tu x0 k) x0 fx) (hk : k < tn x0) (hs : tu x0 k < R ^ lc S H) (egb : gb = tk x0 (tu x0 k) - 1) (emi : mi = tm x0 (tu x0 k)) (hn : n ≤ 405) (hL : LdS cz B2 n g) (hG : ∀ x, (∃ j, j < n ∧ g j = x) ↔ ∃ q, Qok S R H q ∧ LQ S R D H Q (qs S R H (tu x0 k)) q ∧ True ∧ x = kr S H q) (ks : ∀ c', Kp [34, 35, 36, 37] cz c' → te (fx (R ^ lc S H)) = 0 → RT c' B2 S R H (fx (R ^ lc S H)) → Rn (G_282 B2 1 [nI mo, nI aim, nI (tn (fx (R ^ lc S H))), nI (k + 1)] [] [] c') Po) (kf : ∀ c' v, Kp [34, 35, 36, 37] cz c' → te (fx (R ^ lc S H)) = 1 → v ≤ 1000 → cA c' 35 B2 v = nI (mi + 1) → cA c' 36 B2 v = nI (tr0 (fx (R ^ lc S H))) → Po (nI v, c')) (ku : ∀ c', Kp [34, 35, 36, 37] cz c' → te (fx (R ^ lc S H)) = 2 → Po (-3, c')) : ∀ (m i lo : Nat) (c' : Cl), i + m = n → lo ≤ R ^ lc S H → (∀ t, t < R ^ lc S H → LQ S R D H Q (qs S R H (tu x0 k)) (qs S R H t) → (t < lo ↔ ∃ j, j < i ∧ g j = ph S R H t)) → te (fx lo) = 0 → RT c' B2 S R H (fx lo) → Kp [34, 35, 36, 37] cz c' → Rn (G_282 B2 2 [nI mo, nI aim, nI (tn (fx lo)), nI k, nI i] [] [] c') Po
  | 0, i, lo, c', hi, hlo, hl, h0, hT, hK => by
    have : i = n := by omega
    subst this
    have r6 := hS.1.1.1.2.2
    have h6 := hS.1.1.2.2.1.2.2
    have ef : fx (R ^ lc S H) = fx lo := by
      have := FX_skip hF h0 (R ^ lc S H - lo) (fun t t1 t2 z => by
        obtain ⟨j, j1, j2⟩ := (hG (ph S R H t)).mpr ⟨qs S R H t, qs_ok hR0 t, z, trivial, rfl⟩
        have := (hl t (by omega) z).mpr ⟨j, j1, j2⟩
        omega)
      rw [show lo + (R ^ lc S H - lo) = R ^ lc S H by omega] at this
      exact this
    rw [G_282, (hK 39 (by decide)).1, hL.1]
    refine rn_p (nI_le (Nat.le_refl _) (by omega)) ?_
    rw [nI_1, ← ef]
    exact ks c' hK (by rw [ef]; exact h0) (by rw [ef]; exact hT)
  | m + 1, i, lo, c', hi, hlo, hl, h0, hT, hK => by
    have r6 := hS.1.1.1.2.2
    have h6 := hS.1.1.2.2.1.2.2
    have hin : i < n := by omega
    obtain ⟨q, q1, q2, -, q4⟩ := (hG (g i)).mp ⟨i, hin, rfl⟩
    have kcl := kc_lt q1
    obtain ⟨t, et⟩ : ∃ t, t = kc S R H q := ⟨_, rfl⟩
    have tl : t < R ^ lc S H := by rw [et]; exact kcl
    have tg : g i = ph S R H t := by rw [et, ph_kc hR0 q1]; exact q4
    have tL : LQ S R D H Q (qs S R H (tu x0 k)) (qs S R H t) := (LQ_cg (fun h hh hl => by rw [et]; exact qs_kc hR0 q1 hh hl)).mpr q2
    have tge : lo ≤ t := by
      refine Classical.byContradiction fun z => ?_
      obtain ⟨j, j1, j2⟩ := (hl t tl tL).mp (by omega)
      have := hL.2.2 j i j1 hin
      rw [j2, tg] at this
      exact Nat.lt_irrefl _ this
    have ef : fx t = fx lo := by
      have := FX_skip hF h0 (t - lo) (fun u u1 u2 z => by
        obtain ⟨j, j1, j2⟩ := (hG (ph S R H u)).mpr ⟨qs S R H u, qs_ok hR0 u, z, trivial, rfl⟩
        have pm := ph_mono hR0 r6 h6 (s := u) (t := t) (by omega) tl (by omega)
        have : j < i := by
          refine Classical.byContradiction fun y => ?_
          by_cases w : j = i
          · rw [w, tg] at j2; omega
          · have := hL.2.2 i j (by omega) j1
            rw [j2, tg] at this; omega
        have := (hl u (by omega) z).mpr ⟨j, this, j2⟩
        omega)
      rw [show lo + (t - lo) = t by omega] at this
      exact this
    have ec := hF.2.2.1 t tl (by rw [ef]; exact h0) tL
    rw [ef] at ec
    have hl' : ∀ u, u < R ^ lc S H → LQ S R D H Q (qs S R H (tu x0 k)) (qs S R H u) → (u < t + 1 ↔ ∃ j, j < i + 1 ∧ g j = ph S R H u) := fun u ul uL => by
      constructor
      · intro z
        by_cases w : u = t
        · exact ⟨i, by omega, by rw [w, tg]⟩
        · by_cases y : u < lo
          · obtain ⟨j, j1, j2⟩ := (hl u ul uL).mp y
            exact ⟨j, by omega, j2⟩
          · obtain ⟨j, j1, j2⟩ := (hG (ph S R H u)).mpr ⟨qs S R H u, qs_ok hR0 u, uL, trivial, rfl⟩
            have pm := ph_mono hR0 r6 h6 (s := u) (t := t) ul tl (by omega)
            refine ⟨j, ?_, j2⟩
            refine Classical.byContradiction fun y => ?_
            have := hL.2.2 i j (by omega) j1
            rw [j2, tg] at this; omega
      · rintro ⟨j, j1, j2⟩
        by_cases w : j = i
        · rw [w, tg] at j2
          have := ph_inj hR0 r6 h6 tl ul j2
          omega
        · have := (hl u ul uL).mpr ⟨j, by omega, j2⟩
          omega
    obtain ⟨x, ex⟩ : ∃ x, x = fx lo := ⟨_, rfl⟩
    have hTI := (hF.2.2.2.2 lo).1
    have hTX := (hF.2.2.2.2 lo).2
    rw [← ex] at ec h0 hT hTI hTX ⊢
    have pl := ph_lt (S := S) (H := H) hR0 r6 t
    have hkx : k < tn x := Nat.lt_of_lt_of_le hk hTX.1
    have uk : tu x k = tu x0 k := hTX.2.1 k hk
    have nx1 : tn x ≤ 1000 := hTI.2.1.2
    have a38 : ald (cA c' 38 B2) 420 (nI i) = some (nI (ph S R H t)) := (ald_ok (by omega) (by decide)).trans (by rw [(hK 38 (by decide)).2.2.2.1, (hL.2.1 i hin).1, tg])
    have a37 : ald (cA c' 37 B2) 46656 (nI (ph S R H t)) = some (if tk x t = 0 then 0 else 1) := (ald_ok pl (by decide)).trans (by rw [hT.2 t tl])
    rw [G_282, (hK 39 (by decide)).1, hL.1]
    refine rn_n (nI_ge hin (by omega)) (rn_e a38 (rn_e a37 ?_))
    have fin : fx (t + 1) = x → Rn (G_282 B2 2 [nI mo, nI aim, nI (tn x), nI k, nI i + 1] [] [] c') Po := fun e => by
      have g := gl_282b hS hR0 hm hml ham hP hF hk hs egb emi hn hL hG ks kf ku m (i + 1) (t + 1) c' (by omega) (by omega) hl' (by rw [e]; exact h0) (by rw [e]; exact hT) hK
      rw [e] at g
      rw [nI_1]; exact g
    by_cases u1 : tk x t = 0
    · rw [if_pos u1]
      have ec' : fx (t + 1) = if qs S R H t mo = aim then (tn x, tu x, tk x, tm x, 1, gb + gn S H (qs S R H (tu x0 k)) (qs S R H t)) else if 1000 ≤ tn x then (tn x, tu x, tk x, tm x, 2, 0) else (tn x + 1, un (tu x) (tn x) t, un (tk x) t (1 + gb + gn S H (qs S R H (tu x0 k)) (qs S R H t)), un (tm x) t (mi + 1), 0, 0) := by
        rw [ec]; unfold come; rw [if_neg (fun z => z u1)]
      have qm := qs_ok (S := S) (H := H) hR0 t mo hm hml
      have p0 : 0 < 6 ^ (5 - mo) := Nat.pow_pos (by decide)
      have p1 : 6 ^ (5 - mo) ≤ 6 ^ 6 := Nat.pow_le_pow_right (by decide) (by omega)
      have p2 : (6 : Nat) ^ 6 = 46656 := rfl
      have dl := Nat.div_le_self (ph S R H t) (6 ^ (5 - mo))
      refine rn_p rfl (rn_e (v := nI (6 ^ (5 - mo))) ((ald_ok (by omega) (by decide)).trans (by rw [(hK 25 (by decide)).2.2.2.1, hP mo (by omega)])) (rn_e (v := nI (ph S R H t / 6 ^ (5 - mo))) (by unfold idv; rw [if_neg (nI_ne0 p0 (by omega))]; exact congrArg some (pk_div (by omega) p0 (by omega))) (rn_e (v := nI (qs S R H t mo)) ((irm_ok (y := 6) (by omega) (by decide) (by decide)).trans (by rw [ph_dg hR0 r6 h6 hm hml])) ?_)))
      -- what label 3 does
      have l3 : ∀ (b : Int32) (Pn : Cl → Prop), tn x ≤ 1000 → (∀ c2, Kp [34, 35, 36, 37] cz c2 → (∀ j, j < tn x → cA c2 34 B2 j = cA c' 34 B2 j ∧ cA c2 35 B2 j = cA c' 35 B2 j ∧ cA c2 36 B2 j = cA c' 36 B2 j) → cA c2 34 B2 (tn x) = nI (ph S R H t) → cA c2 35 B2 (tn x) = nI (mi + 1) → cA c2 36 B2 (tn x) = nI (gb + gn S H (qs S R H (tu x0 k)) (qs S R H t)) → cA c2 37 B2 = upd (cA c' 37 B2) (ph S R H t) 1 → Rn (if b = 0 then G_282 B2 2 [nI mo, nI aim, nI (tn x) + 1, nI k, nI i + 1] [] [] c2 else some ((nI (tn x) + 1) - 1, c2)) Po) → Rn (G_282 B2 3 [nI mo, nI aim, nI (tn x), nI k, nI i, nI (ph S R H t), b] [] [] c') Po := fun b Pn hx h => by
        rw [G_282]
        refine rn_st pl (by decide) (rn_st (by omega) (by decide) (rn_ld (by omega) (by decide) (rn_st (by omega) (by decide) (rn_ld (by omega) (by decide) (rn_ld (by omega) (by decide) ?_)))))
        have r37 : vp_nar .boolean 1 = 1 := rfl
        obtain ⟨d1, hd1⟩ : ∃ d1, d1 = sA c' 37 B2 (upd (cA c' 37 B2) (ph S R H t) (vp_nar .boolean 1)) := ⟨_, rfl⟩
        rw [← hd1]
        obtain ⟨d2, hd2⟩ : ∃ d2, d2 = sA d1 34 B2 (upd (cA d1 34 B2) (tn x) (nI (ph S R H t))) := ⟨_, rfl⟩
        rw [← hd2]
        obtain ⟨d3, hd3⟩ : ∃ d3, d3 = sA d2 35 B2 (upd (cA d2 35 B2) (tn x) (cA d2 35 B2 k + 1)) := ⟨_, rfl⟩
        rw [← hd3]
        have k1 : Kp [37] c' d1 := by rw [hd1]; exact kp_A (by decide)
        have k2 : Kp [34] d1 d2 := by rw [hd2]; exact kp_A (by decide)
        have k3 : Kp [35] d2 d3 := by rw [hd3]; exact kp_A (by decide)
        have kk : Kp [34, 35, 36, 37] cz d3 := kp_tr hK (kp_tr (kp_wd k1 (by decide)) (kp_tr (kp_wd k2 (by decide)) (kp_wd k3 (by decide))))
        have hj := hT.1 k hkx
        rw [uk] at hj
        have tk1 : tk x (tu x0 k) = tk x0 (tu x0 k) := (hTX.2.2.1 k hk).1
        have tm1 : tm x (tu x0 k) = tm x0 (tu x0 k) := (hTX.2.2.1 k hk).2
        have s34 : cA d3 34 B2 = upd (cA c' 34 B2) (tn x) (nI (ph S R H t)) := by rw [(k3 34 (by decide)).2.2.2.1, hd2, cA_same, (k1 34 (by decide)).2.2.2.1]
        have s35 : cA d3 35 B2 = upd (cA c' 35 B2) (tn x) (nI (mi + 1)) := by
          rw [hd3, cA_same, (k2 35 (by decide)).2.2.2.1, (k1 35 (by decide)).2.2.2.1, hj.2.1, tm1, ← emi, nI_1]
        have s36 : cA d3 36 B2 = cA c' 36 B2 := by rw [(k3 36 (by decide)).2.2.2.1, (k2 36 (by decide)).2.2.2.1, (k1 36 (by decide)).2.2.2.1]
        have s37 : cA d3 37 B2 = upd (cA c' 37 B2) (ph S R H t) 1 := by rw [(k3 37 (by decide)).2.2.2.1, (k2 37 (by decide)).2.2.2.1, hd1, cA_same, r37]
        have f81 := f_281 (c := d3) (B2 := B2) (s := tu x0 k) (t := t) hS hR0 (fun h hh => by rw [(kk 25 (by decide)).2.2.2.1]; exact hP h hh)
        rw [s34, s36, pk_un (by omega), hj.1, hj.2.2, tk1, ← egb]
        refine rn_e f81 (rn_st (by omega) (by decide) ?_)
        rw [nI_add]
        refine h _ (kp_tr kk (kp_A (by decide))) (fun j hj => ⟨?_, ?_, ?_⟩) ?_ ?_ ?_ ?_
        · rw [cA_ne (show 34 ≠ 36 by decide), s34, pk_un (by omega)]
        · rw [cA_ne (show 35 ≠ 36 by decide), s35, pk_un (by omega)]
        · rw [cA_same, pk_un (by omega), s36]
        · rw [cA_ne (show 34 ≠ 36 by decide), s34, pk_us]
        · rw [cA_ne (show 35 ≠ 36 by decide), s35, pk_us]
        · rw [cA_same, pk_us]
        · rw [cA_ne (show 37 ≠ 36 by decide), s37]
      by_cases u2 : qs S R H t mo = aim
      · rw [if_pos u2] at ec'
        have te1 : te (fx (t + 1)) = 1 := by rw [ec']; rfl
        have en := FX_end hF (lo := t + 1) (by rw [te1]; decide) (R ^ lc S H - (t + 1))
        rw [show t + 1 + (R ^ lc S H - (t + 1)) = R ^ lc S H by omega] at en
        refine rn_e (v := (1 : Int32)) (if_pos (by rw [u2])) ?_
        have l3' : Rn (G_282 B2 3 [nI mo, nI aim, nI (tn x), nI k, nI i, nI (ph S R H t), 1] [] [] c') Po := l3 1 (fun _ => True) nx1 (fun c2 b1 b2 b3 b4 b5 b6 => by
          refine rn_n (by decide) ?_
          rw [nI_1, nI_pred]
          exact rn_r (kf c2 (tn x) b1 (by rw [en]; exact te1) nx1 b4 (by rw [b5, en, ec']; rfl)))
        exact rn_i (fun _ => l3') (fun _ => rn_n (by decide) l3')
      · rw [if_neg u2] at ec'
        refine rn_e (v := (0 : Int32)) (if_neg (fun z => u2 ((nI_eq (by omega) (by omega)).mp z))) ?_
        by_cases u3 : 1000 ≤ tn x
        · rw [if_pos u3] at ec'
          have te1 : te (fx (t + 1)) = 2 := by rw [ec']; rfl
          have en := FX_end hF (lo := t + 1) (by rw [te1]; decide) (R ^ lc S H - (t + 1))
          rw [show t + 1 + (R ^ lc S H - (t + 1)) = R ^ lc S H by omega] at en
          exact rn_n (show ¬ nI (tn x) < nI 1000 from nI_nlt u3 (by omega)) (rn_p rfl (rn_r (ku c' hK (by rw [en]; exact te1))))
        · rw [if_neg u3] at ec'
          have te1 : te (fx (t + 1)) = 0 := by rw [ec']; rfl
          have tn1 : tn (fx (t + 1)) = tn x + 1 := by rw [ec']; rfl
          refine rn_p (show nI (tn x) < nI 1000 from nI_lt (by omega) (by omega)) (l3 0 (fun _ => True) nx1 (fun c2 b1 b2 b3 b4 b5 b6 => rn_p rfl ?_))
          rw [nI_1, nI_1, ← tn1]
          have ns : ∀ j, j < tn x → tu x j ≠ t := fun j hj z => (hTI.1.1 j hj).2 (by rw [z]; exact u1)
          refine gl_282b hS hR0 hm hml ham hP hF hk hs egb emi hn hL hG ks kf ku m (i + 1) (t + 1) c2 (by omega) (by omega) hl' te1 ⟨fun j hj => ?_, fun y hy => ?_⟩ b1
          · rw [ec'] at hj ⊢
            have hj' : j < tn x + 1 := hj
            show cA c2 34 B2 j = nI (ph S R H (un (tu x) (tn x) t j)) ∧ cA c2 35 B2 j = nI (un (tm x) t (mi + 1) (un (tu x) (tn x) t j)) ∧ cA c2 36 B2 j = nI (un (tk x) t (1 + gb + gn S H (qs S R H (tu x0 k)) (qs S R H t)) (un (tu x) (tn x) t j) - 1)
            by_cases z : j = tn x
            · rw [z, un_s, un_s, un_s, b3, b4, b5]
              exact ⟨rfl, rfl, congrArg nI (by omega)⟩
            · have hj2 : j < tn x := by omega
              rw [un_n z, un_n (ns j hj2), un_n (ns j hj2), (b2 j hj2).1, (b2 j hj2).2.1, (b2 j hj2).2.2]
              exact hT.1 j hj2
          · rw [ec', b6]
            show upd (cA c' 37 B2) (ph S R H t) 1 (ph S R H y) = if un (tk x) t (1 + gb + gn S H (qs S R H (tu x0 k)) (qs S R H t)) y = 0 then 0 else 1
            by_cases z : y = t
            · rw [z, pk_us, un_s, if_neg (by omega)]
            · rw [pk_un (fun w => z (ph_inj hR0 r6 h6 hy tl w)), un_n z]
              exact hT.2 y hy
    · rw [if_neg u1]
      exact rn_n (by decide) (fin (by rw [ec]; unfold come; rw [if_pos u1]))
end Steals
