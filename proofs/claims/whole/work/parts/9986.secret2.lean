/-! ===== secret: both alike ===== -/
section Secret2
variable {c0 c1 c6 c8 c10 c11 c12 c13 : Cl} {d : Ad} {sc st cr B B2 : Nat} {S : Nat → Int32} {A : Nat → Nat} {X R D H Q M L E : Nat} {K : Nat → Nat} {a : Nat → Nat}
/-- digits that make a situation -/
def sok (S : Nat → Int32) (R H : Nat) (p : Nat → Nat) (h : Nat) : Prop := if h < H then (if lv S h = 0 then p h = 0 else p h < R) else p h = 0
theorem sok_ph (hR : 0 < R) (r6 : R ≤ 6) (h6 : H ≤ 6) {c : Nat} (hc : c < 46656) : (∀ h, h < 6 → sok S R H (dg 6 6 c) h) ↔ (psi S R H c < R ^ lc S H ∧ ph S R H (psi S R H c) = c) := by
  have ed : cd 6 (dg 6 6 c) 6 = c := cd_dg (by decide) hc
  constructor
  · intro h
    have hq : Qok S R H (dg 6 6 c) := fun k hk hl => by
      have := h k (by omega)
      unfold sok at this
      rw [if_pos hk, if_neg hl] at this
      exact this
    have e : psi S R H c = kc S R H (dg 6 6 c) := kc_cg fun k _ _ => by unfold dg; rw [show 6 - 1 - k = 5 - k by omega]
    rw [e]
    refine ⟨kc_lt hq, ?_⟩
    rw [ph_kc hR hq]
    refine Eq.trans (cd_cg fun k hk => ?_) ed
    have := h k hk
    unfold sok at this
    unfold qx
    by_cases w : k < H
    · rw [if_pos w] at this ⊢
      by_cases u : lv S k = 0
      · rw [if_pos u] at this ⊢; exact this.symm
      · rw [if_neg u]
    · rw [if_neg w] at this ⊢; exact this.symm
  · intro ⟨h1, h2⟩ k hk
    have e : dg 6 6 c k = qx S H (qs S R H (psi S R H c)) k := by
      have := dg_cd (b := 6) (p := qx S H (qs S R H (psi S R H c))) (n := 6) (by decide) (qx_lt (qs_ok hR _) r6) k hk
      rw [← this]
      congr 1
      exact h2.symm
    unfold sok
    rw [e]
    unfold qx
    by_cases w : k < H
    · rw [if_pos w]
      by_cases u : lv S k = 0
      · rw [if_pos u, if_pos w, if_pos u]
      · rw [if_neg u, if_pos w, if_neg u]; exact qs_ok hR _ k w u
    · rw [if_neg w, if_neg w]
theorem gl_257 {c : Cl} {p : Nat → Nat} (hS : SR c1 c8 st S R D H Q M L E K) (eS : cA c 20 B2 = S) (h24 : ∀ h, h < 6 → cA c 24 B2 h = nI (p h) ∧ p h < 6) : ∀ m i, i + m = 6 → (∀ h, h < i → sok S R H p h) → ∃ v, G_257 c B2 0 [nI i] [] [] = some (v, c) ∧ ((v = 1 ∧ ∀ h, h < 6 → sok S R H p h) ∨ (v = 0 ∧ ¬ ∀ h, h < 6 → sok S R H p h))
  | 0, i, hi, hb => by
    have : i = 6 := by omega
    subst this
    refine ⟨1, ?_, Or.inl ⟨rfl, hb⟩⟩
    rw [G_257]
    exact in_pos (by decide) rfl
  | m + 1, i, hi, hb => by
    obtain ⟨⟨-, hR, r6⟩, -, ⟨-, hH, h6⟩, -⟩ := id hS.1.1
    have hN : SnR c1 c8 st (cA c 20 B2) R D H Q M := by rw [eS]; exact hS.1.1
    obtain ⟨e24, p6⟩ := h24 i (by omega)
    have a24 : ald (cA c 24 B2) 6 (nI i) = some (nI (p i)) := (ald_ok (by omega) (by decide)).trans (by rw [e24])
    have t4 : ((if is1 H (nI i) = 0 then some 0 else F_224 c B2 (nI i) >>= fun r13 => if r13 = 0 then some 0 else some 1) : Option Int32) = some (if i < H then (if lv S i = 0 then 0 else 1) else 0) := by
      by_cases w : i < H
      · have e1 : is1 H (nI i) = 1 := by unfold is1; rw [if_neg (nI_pos (by omega)), if_neg (nI_ge w (by omega))]
        rw [if_pos w]
        refine in_neg (by rw [e1]; decide) (ob_mk ((f_224 (by omega)).trans (by rw [eS])) ?_)
        by_cases u : lv S i = 0
        · rw [if_pos u, if_pos u]
        · rw [if_neg u, if_neg u]
      · have e1 : is1 H (nI i) = 0 := by unfold is1; rw [if_neg (nI_pos (by omega)), if_pos (nI_le (by omega) (by omega))]
        rw [if_neg w]
        exact in_pos e1 rfl
    have nxt : sok S R H p i → ∃ v, G_257 c B2 0 [nI i + 1] [] [] = some (v, c) ∧ ((v = 1 ∧ ∀ h, h < 6 → sok S R H p h) ∨ (v = 0 ∧ ¬ ∀ h, h < 6 → sok S R H p h)) := fun e => by
      rw [nI_1]
      exact gl_257 hS eS h24 m (i + 1) (by omega) (fun h hh => by
        by_cases z : h = i
        · rw [z]; exact e
        · exact hb h (by omega))
    rw [G_257]
    rw [if_neg (show ¬ (6 : Int32) ≤ nI i from nI_ge (a := i) (b := 6) (by omega) (by decide))]
    by_cases w : i < H ∧ ¬ lv S i = 0
    · rw [if_pos w.1, if_neg w.2] at t4
      have so : sok S R H p i ↔ p i < R := by unfold sok; rw [if_pos w.1, if_neg w.2]
      by_cases u : p i < R
      · obtain ⟨v, g1, g2⟩ := nxt (so.mpr u)
        refine ⟨v, ?_, g2⟩
        refine ob_mk (f_221 hN) (ob_mk t4 (in_neg (by decide) (ob_mk a24 (ob_mk (v := nI R) (al_0.trans (by rw [eS, hR])) (in_pos (nI_lt u (by omega)) g1)))))
      · refine ⟨0, ?_, Or.inr ⟨rfl, fun z => u (so.mp (z i (by omega)))⟩⟩
        refine ob_mk (f_221 hN) (ob_mk t4 (in_neg (by decide) (ob_mk a24 (ob_mk (v := nI R) (al_0.trans (by rw [eS, hR])) (in_neg (nI_nlt (by omega) (by omega)) rfl)))))
    · have t0 : (if i < H then (if lv S i = 0 then (0 : Int32) else 1) else 0) = 0 := by
        by_cases z : i < H
        · rw [if_pos z]
          by_cases z2 : lv S i = 0
          · rw [if_pos z2]
          · exact absurd ⟨z, z2⟩ w
        · rw [if_neg z]
      rw [t0] at t4
      have so : sok S R H p i ↔ p i = 0 := by
        unfold sok
        by_cases z : i < H
        · rw [if_pos z]
          by_cases z2 : lv S i = 0
          · rw [if_pos z2]
          · exact absurd ⟨z, z2⟩ w
        · rw [if_neg z]
      by_cases u : p i = 0
      · obtain ⟨v, g1, g2⟩ := nxt (so.mpr u)
        exact ⟨v, ob_mk (f_221 hN) (ob_mk t4 (in_pos rfl (ob_mk a24 (in_pos (by rw [u]; decide) g1)))), g2⟩
      · exact ⟨0, ob_mk (f_221 hN) (ob_mk t4 (in_pos rfl (ob_mk a24 (in_neg (nI_nle (by omega) (by omega)) rfl)))), Or.inr ⟨rfl, fun z => u (so.mp (z i (by omega)))⟩⟩
/-- links of all that go -/
def lkb (S : Nat → Int32) (D : Nat) (a q : Nat → Nat) (h : Nat) : Prop := lv S h = 0 ∨ q h = a h ∨ ¬ bit1 (bs S (nI (a h)) D) (nI (q h)) = 0
theorem gl_277 {c : Cl} {q : Nat → Nat} (hS : SR c1 c8 st S R D H Q M L E K) (eS : cA c 20 B2 = S) (hq : Qok S R H q) (ha : Qok S R H a) (h24 : ∀ h, h < 6 → cA c 24 B2 h = nI (qx S H q h)) (h32 : ∀ h, h < 6 → cA c 32 B2 h = nI (qx S H a h)) : ∀ m i, i + m = H → (∀ h, h < i → lkb S D a q h) → ∃ v, G_277 c B2 0 [nI (sn (fun h => if lv S h = 0 then 0 else if q h = a h then 0 else 1) i), nI i] [] [] = some v ∧ ((v = nI (gn S H a q) ∧ ∀ h, h < H → lkb S D a q h) ∨ (v = -1 ∧ ¬ ∀ h, h < H → lkb S D a q h))
  | 0, i, hi, hb => by
    have : i = H := by omega
    subst this
    obtain ⟨-, -, ⟨-, hH, h6⟩, -⟩ := id hS.1.1
    refine ⟨_, ?_, Or.inl ⟨rfl, hb⟩⟩
    rw [G_277, eS]
    exact ob_mk al_2 (in_pos (by rw [hH]; exact nI_le (Nat.le_refl _) (by omega)) rfl)
  | m + 1, i, hi, hb => by
    obtain ⟨⟨-, hR, r6⟩, ⟨-, hD, d10⟩, ⟨-, hH, h6⟩, -⟩ := id hS.1.1
    have hiH : i < H := by omega
    have a24 : ald (cA c 24 B2) 6 (nI i) = some (nI (qx S H q i)) := (ald_ok (by omega) (by decide)).trans (by rw [h24 i (by omega)])
    have a32 : ald (cA c 32 B2) 6 (nI i) = some (nI (qx S H a i)) := (ald_ok (by omega) (by decide)).trans (by rw [h32 i (by omega)])
    have q6 := qx_lt hq r6 i (by omega)
    have a6 := qx_lt ha r6 i (by omega)
    have st : ∀ (x : Nat), (if lv S i = 0 then 0 else if q i = a i then 0 else 1) = x → sn (fun h => if lv S h = 0 then 0 else if q h = a h then 0 else 1) (i + 1) = sn (fun h => if lv S h = 0 then 0 else if q h = a h then 0 else 1) i + x := fun x e => by show _ + (if lv S i = 0 then 0 else if q i = a i then 0 else 1) = _; rw [e]
    have nxt : lkb S D a q i → ∃ v, G_277 c B2 0 [nI (sn (fun h => if lv S h = 0 then 0 else if q h = a h then 0 else 1) (i + 1)), nI (i + 1)] [] [] = some v ∧ ((v = nI (gn S H a q) ∧ ∀ h, h < H → lkb S D a q h) ∨ (v = -1 ∧ ¬ ∀ h, h < H → lkb S D a q h)) := fun e => gl_277 hS eS hq ha h24 h32 m (i + 1) (by omega) (fun h hh => by
      by_cases z : h = i
      · rw [z]; exact e
      · exact hb h (by omega))
    rw [G_277, eS]
    by_cases w : qx S H q i = qx S H a i
    · have e0 : (if lv S i = 0 then 0 else if q i = a i then 0 else 1) = 0 := by
        by_cases u : lv S i = 0
        · rw [if_pos u]
        · rw [qx_l hiH u, qx_l hiH u] at w
          rw [if_neg u, if_pos w]
      have l : lkb S D a q i := by
        by_cases u : lv S i = 0
        · exact Or.inl u
        · rw [qx_l hiH u, qx_l hiH u] at w
          exact Or.inr (Or.inl w)
      obtain ⟨v, g1, g2⟩ := nxt l
      rw [st 0 e0, Nat.add_zero] at g1
      exact ⟨v, ob_mk al_2 (in_neg (by rw [hH]; exact nI_ge hiH (by omega)) (ob_mk a24 (ob_mk a32 (in_pos (by rw [w]) (by rw [nI_1]; exact g1))))), g2⟩
    · have u : ¬ lv S i = 0 := fun u => w (by unfold qx; rw [if_pos hiH, if_pos hiH, if_pos u, if_pos u])
      have w' : ¬ q i = a i := fun z => w (by rw [qx_l hiH u, qx_l hiH u, z])
      have nw : ¬ nI (qx S H q i) = nI (qx S H a i) := fun z => w ((nI_eq (by omega) (by omega)).mp z)
      rw [qx_l hiH u] at a24 a32 nw
      rw [qx_l hiH u] at nw
      have f2 : F_232 c B2 (nI (a i)) = some (bs S (nI (a i)) D) := (f_232 (by rw [eS]; exact hD) d10).trans (by rw [eS])
      by_cases y : bit1 (bs S (nI (a i)) D) (nI (q i)) = 0
      · exact ⟨-1, ob_mk al_2 (in_neg (by rw [hH]; exact nI_ge hiH (by omega)) (ob_mk a24 (ob_mk a32 (in_neg nw (ob_mk a32 (ob_mk f2 (ob_mk a24 (ob_mk (f_171 _ _) (in_pos y rfl))))))))), Or.inr ⟨rfl, fun z => by
          rcases z i hiH with z | z | z
          · exact u z
          · exact w' z
          · exact z y⟩⟩
      · obtain ⟨v, g1, g2⟩ := nxt (Or.inr (Or.inr y))
        rw [st 1 (by rw [if_neg u, if_neg w'])] at g1
        exact ⟨v, ob_mk al_2 (in_neg (by rw [hH]; exact nI_ge hiH (by omega)) (ob_mk a24 (ob_mk a32 (in_neg nw (ob_mk a32 (ob_mk f2 (ob_mk a24 (ob_mk (f_171 _ _) (in_neg y (by rw [nI_1, nI_1]; exact g1)))))))))), g2⟩
/-- so many go at least -/
theorem gn_pos {q : Nat → Nat} {h : Nat} (hh : h < H) (hl : ¬ lv S h = 0) (e : q h ≠ a h) : 0 < gn S H a q := by
  have := sn_1 (f := fun h => if lv S h = 0 then 0 else if q h = a h then 0 else 1) hh
  rw [if_neg hl, if_neg e] at this
  exact this
/-- what the reference has so far -/
def x4S : Option (Nat × Nat) → Int32
  | none => -1
  | some y => nI y.1
def x5S (S : Nat → Int32) (R H : Nat) : Option (Nat × Nat) → Int32
  | none => 0
  | some y => nI (ph S R H y.2)
/-- in what comes one after the other there is always a number that fits -/
theorem foS_ok {mo aim : Nat} (hR : 0 < R) (h6 : H ≤ 6) : ∀ s, s ≤ R ^ lc S H → ∀ y, fo S R D H a false mo aim (fun _ => false) (lfS S R H Q a) none s = some y → 1 ≤ y.1 ∧ y.1 ≤ 6 ∧ y.2 < R ^ lc S H
  | 0, _, y, e => by cases e
  | s + 1, hs, y, e => by
    have ih := foS_ok (mo := mo) (aim := aim) hR h6 s (by omega)
    have e' : (@ite _ (adm S R D H a false mo aim s) (Classical.propDecidable _) (lfS S R H Q a (qs S R H s) (fo S R D H a false mo aim (fun _ => false) (lfS S R H Q a) none s)) (fo S R D H a false mo aim (fun _ => false) (lfS S R H Q a) none s)) = some y := e
    by_cases w : adm S R D H a false mo aim s
    · rw [if_pos w] at e'
      unfold lfS at e'
      split at e'
      · rename_i z
        cases e'
        have := gn_le (S := S) (H := H) (a := a) (q := qs S R H s)
        exact ⟨by show 1 ≤ gn S H a (qs S R H s); omega, by show gn S H a (qs S R H s) ≤ 6; omega, kc_lt (qs_ok hR s)⟩
      · exact ih y e'
    · rw [if_neg w] at e'; exact ih y e'
end Secret2
