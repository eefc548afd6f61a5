/-! ===== keepsCounts of the reference ===== -/
theorem su_congr {f g : Nat → Int32} : ∀ {n : Nat}, (∀ i, i < n → f i = g i) → su f n = su g n
  | 0, _ => rfl
  | n + 1, h => by show su f n + f n = su g n + g n; rw [su_congr (fun i hi => h i (by omega)), h n (by omega)]
theorem suf_congr {x y : Int32} {f g : Nat → Int32} (hx : x = y) : ∀ {n : Nat}, (∀ i, i < n → f i = g i) → suf x f n = suf y g n
  | 0, _ => hx
  | n + 1, h => by show suf x f n + f n = suf y g n + g n; rw [suf_congr hx (fun i hi => h i (by omega)), h n (by omega)]
theorem cnt_congr {S T : Nat → Int32} {H : Nat} {r : Int32} (h6 : H ≤ 6) (h : ∀ j, j < 112 → S j = T j) : cnt S H r = cnt T H r := by
  unfold cnt
  refine suf_congr (su_congr fun i hi => ?_) fun i hi => ?_
  · unfold hd1 ctd
    rw [h _ (show 40 + 6 * i + 5 < 112 by omega), h 4 (by decide), h _ (show 40 + 6 * i + 0 < 112 by omega), h _ (show 40 + 6 * i + 1 < 112 by omega)]
  · unfold ec1
    rw [h _ (show 94 + 3 * i + 2 < 112 by omega), h 4 (by decide), h _ (show 94 + 3 * i < 112 by omega), h _ (show 94 + 3 * i + 1 < 112 by omega)]
/-- the row with the counts of so many rooms kept from a place on -/
def kp (S : Nat → Int32) (H w i : Nat) : Nat → Int32 := fun j => if w ≤ j ∧ j < w + i then cnt S H (nI (j - w)) else S j
theorem kp_lo {S : Nat → Int32} {H w i j : Nat} (h : j < w) : kp S H w i j = S j := by unfold kp; rw [if_neg (fun z => by omega)]
theorem kp_up {S : Nat → Int32} {H w i : Nat} : upd (kp S H w i) (w + i) (cnt S H (nI i)) = kp S H w (i + 1) := by
  funext j
  by_cases q : j = w + i
  · subst q
    rw [pk_us]
    unfold kp
    rw [if_pos ⟨by omega, by omega⟩, Nat.add_sub_cancel_left]
  · rw [pk_un q]
    unfold kp
    by_cases z : w ≤ j ∧ j < w + i
    · rw [if_pos z, if_pos ⟨z.1, by omega⟩]
    · rw [if_neg z, if_neg (fun y => z ⟨y.1, by omega⟩)]
section Keeps
variable {c : Cl} {a : Nat} {S : Nat → Int32}
theorem gl_227 {R H M : Nat} (hR : S 0 = nI R) (r6 : R ≤ 6) (hH : S 2 = nI H) (h6 : H ≤ 6) (hM : S 4 = nI M) (hM2 : M < 2 ^ 30) : ∀ m i, i + m = R → G_227 a 0 [nI i] [] [] (sA c 20 a (kp S H (112 + 6 * (M % 12)) i)) = some (sA c 20 a (kp S H (112 + 6 * (M % 12)) R))
  | 0, i, hi => by
    have : i = R := by omega
    subst this
    rw [G_227]
    rw [cA_same, al_0]
    show (if kp S H (112 + 6 * (M % 12)) i 0 ≤ nI i then _ else _) = _
    rw [kp_lo (by omega), hR, if_pos (nI_le (Nat.le_refl _) (by omega))]
  | m + 1, i, hi => by
    have ih := gl_227 hR r6 hH h6 hM hM2 m (i + 1) (by omega)
    have hm : M % 12 < 12 := Nat.mod_lt _ (by decide)
    have hf : F_226 (sA c 20 a (kp S H (112 + 6 * (M % 12)) i)) a (nI i) = some (cnt S H (nI i)) := by
      rw [f_226 (H := H) (by rw [cA_same, kp_lo (by omega), hH]) h6, cA_same, cnt_congr h6 (fun j hj => kp_lo (by omega))]
    rw [G_227]
    rw [cA_same, al_0]
    show (if kp S H (112 + 6 * (M % 12)) i 0 ≤ nI i then _ else _) = _
    rw [kp_lo (by omega), hR, if_neg (nI_ge (by omega) (by omega)), al_4, kp_lo (by omega), hM]
    refine ob_mk rfl (ob_mk (v := nI (M % 12)) (irm_ok (x := M) (y := 12) (by omega) (by decide) (by decide)) (ob_mk hf ?_))
    rw [show (6 : Int32) * nI (M % 12) = nI (6 * (M % 12)) from pk_mul 6 _, show (112 : Int32) + nI (6 * (M % 12)) = nI (112 + 6 * (M % 12)) from nI_add 112 _, nI_add]
    refine ob_mk (ast_ok (by omega) (by decide)) ?_
    rw [cA_same, sA_sA, kp_up, nI_1]
    exact ih
end Keeps
