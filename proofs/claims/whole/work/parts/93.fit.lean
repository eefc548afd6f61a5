/-! ===== what fits what is told: the reference ===== -/
def hv (S : Nat → Int32) (h : Nat) : Nat := (S (40 + 6 * h + 1)).toNatClampNeg
/-- halves of the living that a sense has, as they are looked at -/
def lb (S : Nat → Int32) (H : Nat) (q : Nat → Nat) (s : Nat) : Nat := sn (fun h => if lv S h = 0 then 0 else if bit1 (S (88 + s)) (nI (q h)) = 0 then 0 else hv S h) H
/-- what is told: between what the numbers lie -/
def TdR (S : Nat → Int32) (Q k : Nat) : Prop := ∀ i, i < k → (∃ m, m ≤ 8 ∧ S (184 + 3 * i) = nI m) ∧ (∃ s, s < Q ∧ S (184 + 3 * i + 1) = nI s) ∧ (∃ v, v ≤ 99 ∧ S (184 + 3 * i + 2) = nI v)
def at1 (S : Nat → Int32) (H m : Nat) (q : Nat → Nat) (i : Nat) : Bool := decide (¬ S (184 + 3 * i) = nI m) || decide (nI (lb S H q (S (184 + 3 * i + 1)).toNatClampNeg) = S (184 + 3 * i + 2))
def atb (S : Nat → Int32) (H m : Nat) (q : Nat → Nat) : Nat → Bool
  | 0 => true
  | k + 1 => atb S H m q k && at1 S H m q k
theorem atb_f {S : Nat → Int32} {H m : Nat} {q : Nat → Nat} {i : Nat} : ∀ {k : Nat}, i ≤ k → atb S H m q i = false → atb S H m q k = false
  | 0, h, e => by have : i = 0 := by omega
                  subst this; exact e
  | k + 1, h, e => by
    by_cases w : i = k + 1
    · subst w; exact e
    · show (atb S H m q k && _) = false
      rw [atb_f (show i ≤ k by omega) e]; rfl
theorem atb_cg {S : Nat → Int32} {H m : Nat} {q q' : Nat → Nat} (h : ∀ k, k < H → ¬ lv S k = 0 → q k = q' k) : ∀ k, atb S H m q k = atb S H m q' k
  | 0 => rfl
  | k + 1 => by
    show (atb S H m q k && at1 S H m q k) = (atb S H m q' k && at1 S H m q' k)
    rw [atb_cg h k]
    have e : ∀ s, lb S H q s = lb S H q' s := fun s => sn_cg fun i hi => by
      by_cases w : lv S i = 0
      · rw [if_pos w, if_pos w]
      · rw [if_neg w, if_neg w, h i hi w]
    unfold at1
    rw [e]
/-- the latest minute told -/
def mx (S : Nat → Int32) : Nat → Nat
  | 0 => 0
  | k + 1 => if mx S k < (S (184 + 3 * k)).toNatClampNeg then (S (184 + 3 * k)).toNatClampNeg else mx S k
theorem mx_8 {S : Nat → Int32} {Q : Nat} : ∀ {k : Nat}, TdR S Q k → mx S k ≤ 8
  | 0, _ => Nat.zero_le _
  | k + 1, h => by
    have := mx_8 (S := S) (Q := Q) (k := k) (fun i hi => h i (by omega))
    obtain ⟨⟨m, hm, em⟩, -⟩ := h k (by omega)
    show (if mx S k < (S (184 + 3 * k)).toNatClampNeg then (S (184 + 3 * k)).toNatClampNeg else mx S k) ≤ 8
    rw [em, nI_clamp (by omega)]
    split <;> omega
def ft (S : Nat → Int32) (R H k m : Nat) (f : Nat → Nat) (s : Nat) : Nat := if atb S H m (qs S R H s) k = true then f s else 0
/-- in how many ways a situation comes, at a minute -/
def wy (S : Nat → Int32) (R D H k : Nat) : Nat → Nat → Nat
  | 0 => ft S R H k 0 (fun s => if s = kc S R H (q0 S) then 1 else 0)
  | m + 1 => ft S R H k (m + 1) (nw S R D H (wy S R D H k m))
section Fit
variable {S : Nat → Int32} {R D H Q : Nat}
theorem ft_le {k m : Nat} {f : Nat → Nat} {n : Nat} : sn (ft S R H k m f) n ≤ sn f n := sn_le fun i _ => by unfold ft; split <;> omega
theorem wy_sum (hR : 0 < R) (r6 : R ≤ 6) (h6 : H ≤ 6) {k : Nat} (hq : Qok S R H (q0 S)) : ∀ m, sn (wy S R D H k m) (R ^ lc S H) ≤ 37 ^ m
  | 0 => Nat.le_trans ft_le (by rw [sn_pt 1 (kc_lt hq)]; exact Nat.le_refl _)
  | m + 1 => by
    refine Nat.le_trans ft_le (Nat.le_trans (nw_sum hR r6 h6) ?_)
    rw [Nat.pow_succ, Nat.mul_comm]
    exact Nat.mul_le_mul_right _ (wy_sum hR r6 h6 hq m)
theorem wy_b (hR : 0 < R) (r6 : R ≤ 6) (h6 : H ≤ 6) {k m : Nat} (m8 : m ≤ 8) (hq : Qok S R H (q0 S)) : sn (wy S R D H k m) (R ^ lc S H) < 2 ^ 60 :=
  Nat.lt_of_le_of_lt (Nat.le_trans (wy_sum hR r6 h6 hq m) (Nat.pow_le_pow_right (by decide) m8)) (by decide)
/-- a row over the reference's numbers -/
def RV (S : Nat → Int32) (R H : Nat) (g : Nat → Int64) (f : Nat → Nat) : Prop := (∀ s, s < R ^ lc S H → g (ph S R H s) = lN (f s)) ∧ (∀ c, c < 46656 → (∀ s, s < R ^ lc S H → ph S R H s ≠ c) → g c = 0)
theorem rv_cg {g : Nat → Int64} {f f' : Nat → Nat} (h : RV S R H g f) (e : ∀ s, s < R ^ lc S H → f' s = f s) : RV S R H g f' := ⟨fun s hs => by rw [e s hs]; exact h.1 s hs, h.2⟩
theorem rv_g {g g' : Nat → Int64} {f : Nat → Nat} (hR : 0 < R) (r6 : R ≤ 6) (h : RV S R H g f) (e : ∀ c, c < 46656 → g' c = g c) : RV S R H g' f := ⟨fun s hs => by rw [e _ (ph_lt hR r6 s)]; exact h.1 s hs, fun c hc z => by rw [e c hc]; exact h.2 c hc z⟩
theorem rv_up {g : Nat → Int64} {f : Nat → Nat} (hR : 0 < R) (r6 : R ≤ 6) (h6 : H ≤ 6) (h : RV S R H g f) {s v : Nat} (hs : s < R ^ lc S H) : RV S R H (vp_updL g (ph S R H s) (lN v)) (fun t => if t = s then v else f t) := by
  refine ⟨fun t ht => ?_, fun c hc z => ?_⟩
  · show _ = lN (if t = s then v else f t)
    by_cases w : t = s
    · subst w; rw [pk_uLs, if_pos rfl]
    · rw [pk_uLn (fun e => w (ph_inj hR r6 h6 ht hs e)), if_neg w]; exact h.1 t ht
  · rw [pk_uLn (fun e => z s hs e.symm)]; exact h.2 c hc z
theorem rv_add {g : Nat → Int64} {f : Nat → Nat} (hR : 0 < R) (r6 : R ≤ 6) (h6 : H ≤ 6) (h : RV S R H g f) {s v : Nat} (hs : s < R ^ lc S H) : RV S R H (vp_updL g (ph S R H s) (g (ph S R H s) + lN v)) (fun t => f t + if s = t then v else 0) := by
  rw [h.1 s hs, lN_add]
  refine rv_cg (rv_up hR r6 h6 h hs) (fun t ht => ?_)
  by_cases w : t = s
  · subst w; rw [if_pos rfl, if_pos rfl]
  · rw [if_neg w, if_neg (fun e => w e.symm), Nat.add_zero]
/-- a row's sum -/
theorem rv_sum {g : Nat → Int64} {f : Nat → Nat} (hR : 0 < R) (r6 : R ≤ 6) (h6 : H ≤ 6) (h : RV S R H g f) : sl g 46656 = lN (sn f (R ^ lc S H)) := by
  have e1 : sl g 46656 = lN (sn (fun c => if psi S R H c < R ^ lc S H ∧ ph S R H (psi S R H c) = c then f (psi S R H c) else 0) 46656) := sl_lN fun c hc => by
    by_cases w : psi S R H c < R ^ lc S H ∧ ph S R H (psi S R H c) = c
    · rw [if_pos w]
      have := h.1 _ w.1
      rw [w.2] at this
      exact this
    · rw [if_neg w]
      exact h.2 c hc (fun s hs e => w (by rw [← e, psi_ph hR r6 h6 hs]; exact ⟨hs, rfl⟩))
  rw [e1, inj_sum (N := R ^ lc S H) (φ := ph S R H) (fun s t a b => ph_inj hR r6 h6 a b) (fun s _ => ph_lt hR r6 s) (fun c hc z => by
    by_cases w : psi S R H c < R ^ lc S H ∧ ph S R H (psi S R H c) = c
    · exact ⟨_, w.1, w.2⟩
    · rw [if_neg w] at z; exact absurd rfl z)]
  congr 1
  refine sn_cg fun s hs => ?_
  rw [psi_ph hR r6 h6 hs, if_pos ⟨hs, rfl⟩]
end Fit
section Fit2
variable {c1 c8 : Cl} {st B2 : Nat} {S : Nat → Int32} {R D H Q M L E : Nat} {K : Nat → Nat}
theorem hv_nI (hS : SR c1 c8 st S R D H Q M L E K) {h : Nat} (hh : h < H) : S (40 + 6 * h + 1) = nI (hv S h) ∧ 1 ≤ hv S h ∧ hv S h ≤ 4 := by
  obtain ⟨-, ⟨y, y1, y4, ey⟩, -⟩ := hS.1.2.2.2.2.2.2.2.1.2.1 h hh
  unfold hv
  rw [ey, nI_clamp (by omega)]
  exact ⟨rfl, y1, y4⟩
theorem q0_ok (hS : SR c1 c8 st S R D H Q M L E K) : Qok S R H (q0 S) := fun h hh hl => q0_lt hS hh hl
theorem lb_24 (hS : SR c1 c8 st S R D H Q M L E K) {q : Nat → Nat} {s : Nat} : lb S H q s ≤ 24 := by
  have h6 := hS.1.1.2.2.1.2.2
  refine Nat.le_trans (sn_le (g := fun _ => 4) fun h hh => ?_) (by rw [sn_k]; omega)
  have := (hv_nI hS hh).2.2
  split
  · omega
  · split <;> omega
theorem gl_259 {q : Nat → Nat} {c : Cl} {s : Nat} (hS : SR c1 c8 st S R D H Q M L E K) (eS : cA c 20 B2 = S) (h24 : ∀ h, h < H → ¬ lv S h = 0 → cA c 24 B2 h = nI (q h)) (hs : s < 6) : ∀ m i, i + m = H → G_259 c B2 0 [nI s, nI (sn (fun h => if lv S h = 0 then 0 else if bit1 (S (88 + s)) (nI (q h)) = 0 then 0 else hv S h) i), nI i] [] [] = some (nI (lb S H q s))
  | 0, i, hi => by
    have : i = H := by omega
    subst this
    obtain ⟨-, -, ⟨-, hH, h6⟩, -⟩ := hS.1.1
    rw [G_259, eS]
    exact ob_mk al_2 (in_pos (by rw [hH]; exact nI_le (Nat.le_refl _) (by omega)) rfl)
  | m + 1, i, hi => by
    have ih := gl_259 hS eS h24 hs m (i + 1) (by omega)
    obtain ⟨-, -, ⟨-, hH, h6⟩, -⟩ := hS.1.1
    have e0 : sn (fun h => if lv S h = 0 then 0 else if bit1 (S (88 + s)) (nI (q h)) = 0 then 0 else hv S h) (i + 1) = sn (fun h => if lv S h = 0 then 0 else if bit1 (S (88 + s)) (nI (q h)) = 0 then 0 else hv S h) i + (if lv S i = 0 then 0 else if bit1 (S (88 + s)) (nI (q i)) = 0 then 0 else hv S i) := rfl
    rw [e0, ← nI_add] at ih
    rw [G_259, eS, show (88 : Int32) + nI s = nI (88 + s) from nI_add 88 s]
    refine ob_mk al_2 (in_neg (by rw [hH]; exact nI_ge (by omega) (by omega)) (ob_mk ((f_224 (by omega)).trans (by rw [eS])) (ob_mk (v := nI (if lv S i = 0 then 0 else if bit1 (S (88 + s)) (nI (q i)) = 0 then 0 else hv S i)) ?_ (by rw [nI_1]; exact ih))))
    by_cases w : lv S i = 0
    · rw [if_pos w, if_pos w]; rfl
    · rw [if_neg w, if_neg w]
      refine ob_mk (ald_ok (by omega) (by decide)) (ob_mk (v := nI (q i)) ((ald_ok (by omega) (by decide)).trans (by rw [h24 i (by omega) w])) (ob_mk (f_171 _ _) ?_))
      by_cases u : bit1 (S (88 + s)) (nI (q i)) = 0
      · rw [if_pos u, if_pos u]; rfl
      · rw [if_neg u, if_neg u]
        exact ob_mk ((f_223 (w := 1) (by omega) (by decide)).trans (by rw [eS, (hv_nI hS (show i < H by omega)).1])) rfl
theorem f_259 {q : Nat → Nat} {c : Cl} {s : Nat} (hS : SR c1 c8 st S R D H Q M L E K) (eS : cA c 20 B2 = S) (h24 : ∀ h, h < H → ¬ lv S h = 0 → cA c 24 B2 h = nI (q h)) (hs : s < 6) : F_259 c B2 (nI s) = some (nI (lb S H q s)) := by
  unfold F_259
  exact gl_259 hS eS h24 hs H 0 (by omega)
theorem gl_261 {q : Nat → Nat} {c : Cl} {m0 k : Nat} (hS : SR c1 c8 st S R D H Q M L E K) (eS : cA c 20 B2 = S) (h24 : ∀ h, h < H → ¬ lv S h = 0 → cA c 24 B2 h = nI (q h)) (k12 : k ≤ 12) (hT : TdR S Q k) : ∀ m i, i + m = k → atb S H m0 q i = true → G_261 c B2 0 [nI m0, nI k, nI i] [] [] = some (if atb S H m0 q k = true then 1 else 0)
  | 0, i, hi, ha => by
    have : i = k := by omega
    subst this
    rw [G_261, if_pos ha]
    exact in_pos (nI_le (Nat.le_refl _) (by omega)) rfl
  | m + 1, i, hi, ha => by
    have ih := gl_261 (m0 := m0) hS eS h24 k12 hT m (i + 1) (by omega)
    obtain ⟨-, -, -, ⟨-, hQ, q6⟩, -⟩ := hS.1.1
    obtain ⟨-, ⟨s, hs, es⟩, v, hv, ev⟩ := hT i (by omega)
    have ix : (184 : Int32) + 3 * nI i = nI (184 + 3 * i) := by rw [show (3 : Int32) * nI i = nI (3 * i) from pk_mul 3 i]; exact nI_add 184 _
    rw [G_261, eS, ix, nI_1, show nI (184 + 3 * i) + 2 = nI (184 + 3 * i + 2) from nI_add _ 2]
    refine in_neg (nI_ge (by omega) (by omega)) (ob_mk (ald_ok (by omega) (by decide)) ?_)
    rw [nI_1]
    have sc : (S (184 + 3 * i + 1)).toNatClampNeg = s := by rw [es, nI_clamp (by omega)]
    by_cases w : S (184 + 3 * i) = nI m0
    · refine in_pos w (ob_mk (v := nI s) ((ald_ok (by omega) (by decide)).trans (by rw [es])) (ob_mk (f_259 hS eS h24 (by omega)) (ob_mk (ald_ok (by omega) (by decide)) ?_)))
      by_cases u : nI (lb S H q s) = S (184 + 3 * i + 2)
      · refine in_pos u (ih ?_)
        show (atb S H m0 q i && at1 S H m0 q i) = true
        unfold at1; rw [ha, sc, decide_eq_true u]; simp
      · refine in_neg u ?_
        have : atb S H m0 q (i + 1) = false := by
          show (atb S H m0 q i && at1 S H m0 q i) = false
          unfold at1; rw [ha, sc, decide_eq_false u]; simp [w]
        rw [atb_f (show i + 1 ≤ k by omega) this]; rfl
    · refine in_neg w (ih ?_)
      show (atb S H m0 q i && at1 S H m0 q i) = true
      unfold at1; rw [ha]; simp [w]
theorem f_261 {q : Nat → Nat} {c : Cl} {m0 k : Nat} (hS : SR c1 c8 st S R D H Q M L E K) (eS : cA c 20 B2 = S) (h24 : ∀ h, h < H → ¬ lv S h = 0 → cA c 24 B2 h = nI (q h)) (k12 : k ≤ 12) (hT : TdR S Q k) : F_261 c B2 (nI m0) (nI k) = some (if atb S H m0 q k = true then 1 else 0) := by
  unfold F_261
  exact gl_261 hS eS h24 k12 hT k 0 (by omega) rfl
end Fit2
