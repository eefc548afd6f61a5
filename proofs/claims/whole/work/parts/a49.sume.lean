/-! ===== the search's numbers rest on what rest leaves as it is ===== -/
section Sume
variable {S T : Nat → Int32} {R D H Q : Nat}
theorem lv_sm (e : Sme S T) {h : Nat} (hh : h < 6) : lv T h = lv S h := by
  unfold lv; rw [e _ (by omega) (Or.inl (by omega))]
theorem lc_sm (e : Sme S T) : ∀ {n : Nat}, n ≤ 6 → lc T n = lc S n
  | 0, _ => rfl
  | n + 1, h => by
    show lc T n + (if lv T n = 0 then 0 else 1) = lc S n + (if lv S n = 0 then 0 else 1)
    rw [lc_sm e (by omega), lv_sm e (by omega)]
theorem nbf_sm (e : Sme S T) : ∀ {n : Nat}, n ≤ 6 → nbf T n = nbf S n
  | 0, _ => rfl
  | n + 1, h => by
    show (if lv T n = 0 then nbf T n else fun i => if i = lc T n then n else nbf T n i) = (if lv S n = 0 then nbf S n else fun i => if i = lc S n then n else nbf S n i)
    rw [nbf_sm e (by omega), lc_sm e (by omega), lv_sm e (by omega)]
theorem q0_sm (e : Sme S T) {h : Nat} (hh : h < 6) : q0 T h = q0 S h := by
  unfold q0; rw [lv_sm e hh, e _ (by omega) (Or.inl (by omega))]
theorem qs_sm (e : Sme S T) (h6 : H ≤ 6) (s : Nat) : qs T R H s = qs S R H s := by
  funext h
  unfold qs
  by_cases w : h < H
  · rw [if_pos w, if_pos w, lv_sm e (by omega), lc_sm e h6, lc_sm e (by omega : h ≤ 6)]
  · rw [if_neg w, if_neg w]
theorem kc_sm (e : Sme S T) (h6 : H ≤ 6) (q : Nat → Nat) : kc T R H q = kc S R H q := by
  unfold kc; rw [nbf_sm e h6, lc_sm e h6]
theorem kc0_sm (e : Sme S T) (h6 : H ≤ 6) : kc T R H (q0 T) = kc S R H (q0 S) := by
  rw [kc_sm e h6]
  exact kc_cg fun k hk _ => q0_sm e (by omega)
theorem tg_sm (e : Sme S T) (h6 : H ≤ 6) (s h r : Nat) : tg T R H s h r = tg S R H s h r := by
  unfold tg; rw [kc_sm e h6, qs_sm e h6]
theorem la_sm (e : Sme S T) (h6 : H ≤ 6) (q : Nat → Nat) (x : Int32) : la T H q x = la S H q x := by
  unfold la
  refine su_congr fun h hh => ?_
  unfold la1
  rw [lv_sm e (by omega), e _ (by omega) (Or.inl (by omega))]
theorem bs_sm (e : Sme S T) {r : Int32} : ∀ {D : Nat}, D ≤ 10 → bs T r D = bs S r D
  | 0, _ => rfl
  | n + 1, hD => by
    show bs1 T r (bs T r n) n = bs1 S r (bs S r n) n
    rw [bs_sm e (by omega)]
    unfold bs1
    rw [e (10 + 3 * n + 2) (by omega) (Or.inl (by omega)), e (10 + 3 * n + 1) (by omega) (Or.inl (by omega)), e (10 + 3 * n) (by omega) (Or.inl (by omega))]
theorem cx_sm (e : Sme S T) (h6 : H ≤ 6) (d10 : D ≤ 10) (q : Nat → Nat) {h r : Nat} (hh : h < 6) (hr : r < 6) : cx T H D q h r = cx S H D q h r := by
  unfold cx
  rw [bs_sm e d10, la_sm e h6, e (82 + r) (by omega) (Or.inl (by omega)), e (40 + 6 * h + 1) (by omega) (Or.inl (by omega))]
theorem cw_sm (e : Sme S T) (h6 : H ≤ 6) (d10 : D ≤ 10) (r6 : R ≤ 6) (s t : Nat) : cw T R D H s t = cw S R D H s t := by
  unfold cw
  refine sn_cg fun h hh => ?_
  rw [lv_sm e (by omega)]
  have : sn (fun r => ee T R D H s t h r) R = sn (fun r => ee S R D H s t h r) R := sn_cg fun r hr => by
    unfold ee
    rw [qs_sm e h6, cx_sm e h6 d10 _ (by omega) (by omega), tg_sm e h6]
  rw [this]
theorem nw_sm (e : Sme S T) (h6 : H ≤ 6) (d10 : D ≤ 10) (r6 : R ≤ 6) (f : Nat → Nat) (t : Nat) : nw T R D H f t = nw S R D H f t := by
  unfold nw
  rw [lc_sm e h6]
  exact sn_cg fun s _ => by rw [cw_sm e h6 d10 r6]
theorem hv_sm (e : Sme S T) {h : Nat} (hh : h < 6) : hv T h = hv S h := by
  unfold hv; rw [e _ (by omega) (Or.inl (by omega))]
theorem lb_sm (e : Sme S T) (h6 : H ≤ 6) (q : Nat → Nat) {s : Nat} (hs : s < 6) : lb T H q s = lb S H q s := by
  unfold lb
  refine sn_cg fun h hh => ?_
  rw [lv_sm e (by omega), hv_sm e (by omega), e (88 + s) (by omega) (Or.inl (by omega))]
theorem at1_sm (e : Sme S T) (h6 : H ≤ 6) (q6 : Q ≤ 6) {k : Nat} (hT : TdR S Q k) (k12 : k ≤ 12) (m : Nat) (q : Nat → Nat) {i : Nat} (hi : i < k) : at1 T H m q i = at1 S H m q i := by
  obtain ⟨-, ⟨s, hs, es⟩, -⟩ := hT i hi
  unfold at1
  rw [e (184 + 3 * i) (by omega) (Or.inr (by omega)), e (184 + 3 * i + 1) (by omega) (Or.inr (by omega)), e (184 + 3 * i + 2) (by omega) (Or.inr (by omega)), es, nI_clamp (by omega), lb_sm e h6 q (by omega)]
theorem atb_sm (e : Sme S T) (h6 : H ≤ 6) (q6 : Q ≤ 6) {k : Nat} (hT : TdR S Q k) (k12 : k ≤ 12) (m : Nat) (q : Nat → Nat) : ∀ {i : Nat}, i ≤ k → atb T H m q i = atb S H m q i
  | 0, _ => rfl
  | i + 1, hi => by
    show (atb T H m q i && at1 T H m q i) = (atb S H m q i && at1 S H m q i)
    rw [atb_sm e h6 q6 hT k12 m q (by omega), at1_sm e h6 q6 hT k12 m q (by omega)]
theorem mx_sm (e : Sme S T) : ∀ {k : Nat}, k ≤ 12 → mx T k = mx S k
  | 0, _ => rfl
  | k + 1, h => by
    show (if mx T k < (T (184 + 3 * k)).toNatClampNeg then (T (184 + 3 * k)).toNatClampNeg else mx T k) = (if mx S k < (S (184 + 3 * k)).toNatClampNeg then (S (184 + 3 * k)).toNatClampNeg else mx S k)
    rw [mx_sm e (by omega), e (184 + 3 * k) (by omega) (Or.inr (by omega))]
theorem ft_sm (e : Sme S T) (h6 : H ≤ 6) (q6 : Q ≤ 6) {k : Nat} (hT : TdR S Q k) (k12 : k ≤ 12) (m : Nat) (f : Nat → Nat) (s : Nat) : ft T R H k m f s = ft S R H k m f s := by
  unfold ft
  rw [qs_sm e h6, atb_sm e h6 q6 hT k12 m _ (Nat.le_refl k)]
theorem wy_sm (e : Sme S T) (h6 : H ≤ 6) (q6 : Q ≤ 6) (d10 : D ≤ 10) (r6 : R ≤ 6) {k : Nat} (hT : TdR S Q k) (k12 : k ≤ 12) : ∀ (m : Nat), wy T R D H k m = wy S R D H k m
  | 0 => by
    funext s
    show ft T R H k 0 (fun s => if s = kc T R H (q0 T) then 1 else 0) s = ft S R H k 0 (fun s => if s = kc S R H (q0 S) then 1 else 0) s
    rw [ft_sm e h6 q6 hT k12, kc0_sm e h6]
  | m + 1 => by
    funext s
    show ft T R H k (m + 1) (nw T R D H (wy T R D H k m)) s = ft S R H k (m + 1) (nw S R D H (wy S R D H k m)) s
    rw [ft_sm e h6 q6 hT k12, wy_sm e h6 q6 d10 r6 hT k12 m]
    have : nw T R D H (wy S R D H k m) = nw S R D H (wy S R D H k m) := funext fun t => nw_sm e h6 d10 r6 _ t
    rw [this]
theorem laN_sm (e : Sme S T) (h6 : H ≤ 6) (q : Nat → Nat) (r : Nat) : laN T H q r = laN S H q r := by
  unfold laN
  refine sn_cg fun h hh => ?_
  rw [lv_sm e (by omega), hv_sm e (by omega)]
theorem SU_sm {c7 : Cl} {sr : Nat} {f : Nat → Nat} (e : Sme S T) (h6 : H ≤ 6) (h : SU c7 sr S R H f) : SU c7 sr T R H f := by
  obtain ⟨a1, a2, a3, a4, a5⟩ := h
  have ef : ∀ N h, fe T R H f N h = fe S R H f N h := fun N h => by
    funext r; unfold fe
    have : (fun s => decide (¬ f s = 0) && decide (qs T R H s h = r)) = (fun s => decide (¬ f s = 0) && decide (qs S R H s h = r)) := funext fun s => by rw [qs_sm e h6]
    rw [this]
  have eg : ∀ N r, ga T R H f N r = ga S R H f N r := fun N r => by
    funext x; unfold ga
    exact sn_cg fun s _ => by rw [qs_sm e h6, laN_sm e h6]
  have el := lc_sm e h6
  have e2 : ∀ N, (fun r => mal (ga T R H f N r) 25) = (fun r => mal (ga S R H f N r) 25) := fun N => funext fun r => by rw [eg]
  unfold SU
  rw [el, e2]
  exact ⟨a1, a2, fun h hh hl => by rw [ef]; exact a3 h hh (by rw [← lv_sm e (by omega)]; exact hl), a4, a5⟩
theorem SUM_sm {c7 c7' : Cl} {sr : Nat} (e : Sme S T) (h6 : H ≤ 6) (q6 : Q ≤ 6) (d10 : D ≤ 10) (r6 : R ≤ 6) {k : Nat} (hk : (S 220).toNatClampNeg = k) (hT : TdR S Q k) (k12 : k ≤ 12) (hc : c7' = c7) (h : SUM c7 sr S R D H) : SUM c7' sr T R D H := fun a b => by
  subst hc
  have hk2 : T 220 = S 220 := e _ (by decide) (Or.inr (by decide))
  have g := h a b
  rw [hk2]
  rw [hk] at g ⊢
  rw [mx_sm e k12, wy_sm e h6 q6 d10 r6 hT k12]
  exact SU_sm e h6 g
end Sume
/-- nothing is said of the sum: nothing is asked -/
theorem SUM_0 {c7 : Cl} {sr : Nat} {S : Nat → Int32} {R D H : Nat} : SUM (sI c7 1 sr 0) sr S R D H := fun _ b => absurd (cI_same _ _ _ _) b
