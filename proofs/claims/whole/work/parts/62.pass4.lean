/-! ===== a minute of the class, whole (2) ===== -/
section Pass4
variable {c1 c8 c' : Cl} {st : Nat} {S T : Nat → Int32} {R D H Q M L E : Nat} {K : Nat → Nat}
theorem SA_k (hK : Kp [11, 13] c8 c') (hT : ∀ j, j < 112 → T j = S j) (hA : SA c1 c8 st S R D H Q M L E K) : SA c1 c' st T R D H Q M L E K := by
  obtain ⟨hn, hs0, hs, hm, hl, hd, he, hz, hf⟩ := hA
  have r6 := hn.1.2.2
  have d10 := hn.2.1.2.2
  have h6 := hn.2.2.1.2.2
  have q6 := hn.2.2.2.1.2.2
  have e0 : cR c' 0 st = cR c8 0 st := by rw [(hK 0 (by decide)).2.2.1]
  have eA : ∀ k, k ∉ [11, 13] → cA c' k st = cA c8 k st := fun k q => by rw [(hK k q).2.2.2.1]
  refine ⟨SnR_c e0 (by rw [(hK 1 (by decide)).1]) (fun j a => hT j (by omega)) hn, ShR_c h6 e0 (fun k a b => eA k (by simp only [List.mem_cons, List.not_mem_nil, or_false]; omega)) (fun j a b => hT j (by omega)) hs0, SsR_c q6 e0 (fun j a b => hT j (by omega)) hs, SmR_c r6 e0 (fun j a b => hT j (by omega)) hm, SlR_c d10 (eA 12 (by decide)) (fun j a b => hT j (by omega)) hl, SdR_c d10 e0 (by rw [(hK 2 (by decide)).1]) (fun j a b => hT j (by omega)) hd, ?_, SzR_c h6 r6 q6 e0 (hT _ (by omega)) (fun j a b => hT j (by omega)) (hT _ (by omega)) hz, SfR_c h6 r6 e0 (fun j a b => hT j (by omega)) (fun i q => hT _ (by omega)) (fun i q => hT _ (by omega)) hf⟩
  obtain ⟨g1, g2, g3, g4⟩ := he
  refine ⟨by rw [(hK 3 (by decide)).1]; exact g1, g2, fun j q => by unfold EcB; rw [eA 8 (by decide), eA 9 (by decide)]; exact g3 j q, fun f => ?_⟩
  refine Eq.trans (su_congr fun e q => ?_) ((g4 f).trans (su_congr fun j q => ?_))
  · unfold ef
    rw [hT _ (show 94 + 3 * e + 2 < 112 by omega), hT _ (show 94 + 3 * e + 1 < 112 by omega), hT _ (show 94 + 3 * e < 112 by omega), hT 4 (by decide)]
  · unfold cf
    rw [eA 8 (by decide), eA 9 (by decide), eA 10 (by decide)]
theorem cnt_se (he : SeR c8 st S R E) (r : Nat) : suf (su (hd1 S (nI r)) H) (ce1 c8 st (nI r)) E = cnt S H (nI r) := by
  unfold cnt
  rw [suf_su, suf_su]
  have := he.2.2.2 (fun a b _ => if a = nI r then b else 0)
  exact congrArg _ this.symm
theorem count_ok (hA : SA c1 c8 st S R D H Q M L E K) : ∃ g, F_87 c1 c8 st = some (sA c8 11 st g) ∧ ∀ r, r < 6 → g r = cnt S H (nI r) := by
  obtain ⟨hn, hs0, -, -, -, -, he, hz, -⟩ := id hA
  have r6 := hn.1.2.2
  obtain ⟨g, g1, g2⟩ := f_87 hn hs0 (fun h q => by obtain ⟨⟨x, hx, ex⟩, -⟩ := hz.2.1 h q; exact ⟨x, by omega, ex⟩) he.1 he.2.1 (fun j q => by obtain ⟨⟨x, hx, ex⟩, -⟩ := he.2.2.1 j q; exact ⟨x, by omega, ex⟩)
  exact ⟨g, g1, fun r q => (g2 r q).trans (cnt_se he r)⟩
theorem su_bd {f : Nat → Int32} {b : Nat} : ∀ {n : Nat}, (∀ i, i < n → ∃ v, v ≤ b ∧ f i = nI v) → ∃ v, v ≤ b * n ∧ su f n = nI v
  | 0, _ => ⟨0, by omega, rfl⟩
  | n + 1, h => by
    obtain ⟨v, hv, ev⟩ := su_bd (n := n) (fun i q => h i (by omega))
    obtain ⟨u, hu, eu⟩ := h n (by omega)
    refine ⟨v + u, ?_, ?_⟩
    · rw [Nat.mul_succ]; omega
    · show su f n + f n = _; rw [ev, eu, nI_add]
/-- a count is small -/
theorem cnt_bd (hA : SA c1 c8 st S R D H Q M L E K) (r : Nat) : ∃ v, v ≤ 48 ∧ cnt S H (nI r) = nI v := by
  obtain ⟨hn, -, -, -, -, -, he, hz, -⟩ := id hA
  have h6 := hn.2.2.1.2.2
  rw [← cnt_se he r, suf_su]
  obtain ⟨v, hv, ev⟩ := su_bd (f := hd1 S (nI r)) (b := 4) (n := H) (fun i q => by
    obtain ⟨-, ⟨y, -, y4, ey⟩, -⟩ := hz.2.1 i q
    unfold hd1
    split
    · exact ⟨0, by omega, rfl⟩
    · split
      · exact ⟨y, y4, ey⟩
      · exact ⟨0, by omega, rfl⟩)
  obtain ⟨u, hu, eu⟩ := su_bd (f := ce1 c8 st (nI r)) (b := 4) (n := E) (fun j q => by
    obtain ⟨-, y, y4, ey⟩ := he.2.2.1 j q
    unfold ce1
    split
    · exact ⟨y, y4, ey⟩
    · exact ⟨0, by omega, rfl⟩)
  have e6 := he.2.1
  exact ⟨v + u, by omega, by rw [ev, eu, nI_add]⟩
theorem kp_in {w i j : Nat} (h : j < i) : kp S H w i (w + j) = cnt S H (nI j) := by
  unfold kp; rw [if_pos ⟨by omega, by omega⟩, Nat.add_sub_cancel_left]
theorem kp_out {w i j : Nat} (h : j < w ∨ w + i ≤ j) : kp S H w i j = S j := by
  unfold kp; rw [if_neg (fun z => by omega)]
theorem rk_ok {α : Type} {f : Cl → Option α} {P : α → Prop} (hA : SA c1 c8 st S R D H Q M L E K) (hp : ∀ t r, t < M → M < t + 10 → r < R → cA c8 13 st (t % 10 * 6 + r) = S (112 + 6 * (t % 12) + r) ∧ ∃ v, v ≤ 100 ∧ S (112 + 6 * (t % 12) + r) = nI v) (k : ∀ c', Kp [11, 13] c8 c' → Oth st c8 c' → SR c1 c' st (kp S H (112 + 6 * (M % 12)) R) R D H Q M L E K → Rn (f c') P) : Rn (F_87 c1 c8 st >>= fun r5 => F_88 r5 st >>= f) P := by
  obtain ⟨g, g1, g2⟩ := count_ok hA
  obtain ⟨n1, n4, n7, n10, n13, n14, n15⟩ := hA.1
  have r6 := n1.2.2
  have h6 := n7.2.2
  refine rn_e g1 (rn_e (f_88 (M := M) (by rw [cI_sA]; exact n13) (by omega)) ?_)
  have hK : Kp [11, 13] c8 (sA (sA c8 11 st g) 13 st (va_cpy (cA (sA c8 11 st g) 11 st) (cA (sA c8 11 st g) 13 st) 0 (M % 10 * 6) 6)) := kp_tr (kp_A (by decide)) (kp_A (by decide))
  refine k _ hK (oth_tr oth_A oth_A) ⟨SA_k hK (fun j q => kp_out (by omega)) hA, fun r q => ?_, fun t r a b q => ?_⟩
  · rw [cA_ne (by decide), cA_same, g2 r (by omega)]
    exact cnt_congr h6 (fun j q => (kp_out (by omega)).symm)
  · rw [cA_same, cA_same, cA_ne (by decide)]
    have m10 := Nat.mod_lt t (show 0 < 10 by decide)
    have m12 := Nat.mod_lt t (show 0 < 12 by decide)
    have M10 := Nat.mod_lt M (show 0 < 10 by decide)
    have M12 := Nat.mod_lt M (show 0 < 12 by decide)
    by_cases w : t = M
    · subst w
      rw [pk_cpy_in (by omega) (by omega), kp_in q, show 0 + (t % 10 * 6 + r - t % 10 * 6) = r by omega, g2 r (by omega)]
      obtain ⟨v, hv, ev⟩ := cnt_bd hA r
      exact ⟨rfl, v, by omega, ev⟩
    · rw [pk_cpy_out (by omega), kp_out (by omega)]
      exact hp t r (by omega) b q
theorem pass_none (h : SR c1 c8 st S R D H Q M L E K) (hM : M + 1 < 20000) : Rn (F_92 c1 c8 st (-1) (-1) 0) (fun c' => Oth st c8 c' ∧ cR c' 0 st = cR c8 0 st ∧ ∃ E', SR c1 c' st (kp (mS S) H (112 + 6 * ((M + 1) % 12)) R) R D H Q (M + 1) L E' K) := by
  unfold F_92
  refine rn_s (rn_b (drop_ok h.1 hM) (fun r ⟨rK, rO, E', rA⟩ => rn_e (in_pos (by decide) rfl) (rk_ok rA (fun t r a b q => ?_) (fun c' cK cO cS => rn_r ⟨oth_tr rO cO, by rw [(cK 0 (by decide)).2.2.1, (rK 0 (by decide)).2.2.1], E', cS⟩))))
  rw [(rK 13 (by decide)).2.2.2.1, mS_un (by omega)]
  exact h.2.2 t r (by omega) (by omega) q
/-- behind a minute and perhaps an echo -/
def bE (b : Int32) (S : Nat → Int32) (h : Nat) : Nat → Int32 := if b = 0 then mS S else eS (mS S) (S (40 + 6 * h)) (S (40 + 6 * h + 1))
theorem bE_un {b : Int32} {h j : Nat} (q : j ≠ 4) (q2 : j < 94 ∨ 112 ≤ j) : bE b S h j = S j := by
  unfold bE
  split
  · exact mS_un q
  · rw [eS_un q2, mS_un q]
theorem pass_head {h x : Nat} {b : Int32} (hS : SR c1 c8 st S R D H Q M L E K) (hM : M + 1 < 20000) (hh : h < H) (hx : x < R) : Rn (F_92 c1 c8 st (nI h) (nI x) b) (fun c' => Oth st c8 c' ∧ cR c' 0 st = cR c8 0 st ∧ ∃ E', SR c1 c' st (kp (gS (bE b S h) h (nI x)) H (112 + 6 * ((M + 1) % 12)) R) R D H Q (M + 1) L E' K) := by
  have h6 := hS.1.1.2.2.1.2.2
  have r6 := hS.1.1.1.2.2
  unfold F_92
  refine rn_s (rn_b (drop_ok hS.1 hM) (fun r ⟨rK, rO, E', rA⟩ => ?_))
  refine rn_b (P := fun t => ∃ t0 E2, t = sA (sA (sA t0 5 st (upd (cA t0 5 st) h (cA t0 4 st h))) 4 st (upd (cA t0 4 st) h (nI x))) 6 st (upd (cA t0 6 st) h (cA t0 6 st h + 1)) ∧ Kp [1, 3, 8, 9, 10] c8 t0 ∧ Oth st c8 t0 ∧ SA c1 t0 st (bE b S h) R D H Q (M + 1) L E2 K) (rn_n (nI_pos (by omega)) (rn_n (by rw [rA.1.2.2.1.1]; exact nI_ge hh (by omega)) (rn_n (nI_pos (by omega)) (rn_n (by rw [rA.1.1.1]; exact nI_ge hx (by omega)) (rn_b (P := fun t0 => Kp [1, 3, 8, 9, 10] c8 t0 ∧ Oth st c8 t0 ∧ ∃ E2, SA c1 t0 st (bE b S h) R D H Q (M + 1) L E2 K) ?_ ?_))))) ?_
  · refine rn_i (fun q => rn_r ⟨rK, rO, E', by unfold bE; rw [if_pos q]; exact rA⟩) (fun q => ?_)
    refine rn_b (leave_ok hh rA) (fun r' ⟨k1, o1, E2, a1⟩ => rn_r ⟨kp_tr rK (kp_wd k1 (by decide)), oth_tr rO o1, E2, ?_⟩)
    unfold bE; rw [if_neg q]
    rw [mS_un (show 40 + 6 * h ≠ 4 by omega), mS_un (show 40 + 6 * h + 1 ≠ 4 by omega)] at a1
    exact a1
  · intro t0 ⟨k1, o1, E2, a1⟩
    refine rn_ld (by omega) (by decide) (rn_st (by omega) (by decide) (rn_st (by omega) (by decide) ?_))
    rw [cA_ne (show 6 ≠ 4 by decide), cA_ne (show 6 ≠ 5 by decide), cA_ne (show 4 ≠ 5 by decide)]
    refine rn_ld (by omega) (by decide) (rn_st (by omega) (by decide) (rn_r ⟨t0, E2, ?_, k1, o1, a1⟩))
    rw [cA_ne (show 6 ≠ 4 by decide), cA_ne (show 6 ≠ 5 by decide)]
  · intro t ⟨t0, E2, et, k1, o1, a1⟩
    subst et
    refine rk_ok (move_ok hh hx a1) (fun t r a b q => ?_) (fun c' cK cO cS => rn_r ⟨oth_tr o1 (oth_tr (oth_tr oth_A (oth_tr oth_A oth_A)) cO), by rw [(cK 0 (by decide)).2.2.1, cR_sA, cR_sA, cR_sA, (k1 0 (by decide)).2.2.1], E2, cS⟩)
    rw [cA_ne (show 13 ≠ 6 by decide), cA_ne (show 13 ≠ 4 by decide), cA_ne (show 13 ≠ 5 by decide), (k1 13 (by decide)).2.2.2.1, gS_un (by omega) (by omega) (by omega) (by omega), bE_un (by omega) (by omega)]
    exact hS.2.2 t r (by omega) (by omega) q
theorem gS_mS {h : Nat} {p : Int32} : gS (mS S) h p = mS (gS S h p) := by
  have e4 : gS S h p 4 = S 4 := gS_un (by omega) (by omega) (by omega) (by omega)
  have e : mS (gS S h p) = upd (gS S h p) 4 (S 4 + 1) := by show upd _ 4 (gS S h p 4 + 1) = _; rw [e4]
  rw [e]
  unfold gS
  rw [mS_un (by omega), mS_un (by omega), mS_un (by omega)]
  unfold mS
  rw [upd_c (show 5 ≠ 4 by decide), upd_c (show 40 + 6 * h + 4 ≠ 4 by omega), upd_c (show 40 + 6 * h ≠ 4 by omega), upd_c (show 40 + 6 * h + 3 ≠ 4 by omega)]
theorem upd_gS {h k : Nat} {p v : Int32} (q : 94 ≤ k) (h6 : h < 6) : upd (gS S h p) k v = gS (upd S k v) h p := by
  unfold gS
  rw [pk_un (show 40 + 6 * h ≠ k by omega), pk_un (show 40 + 6 * h + 4 ≠ k by omega), pk_un (show 5 ≠ k by omega), upd_c (show 5 ≠ k by omega), upd_c (show 40 + 6 * h + 4 ≠ k by omega), upd_c (show 40 + 6 * h ≠ k by omega), upd_c (show 40 + 6 * h + 3 ≠ k by omega)]
theorem frf_cg (h4 : T 4 = S 4) (h : ∀ j, T (94 + 3 * j + 2) = S (94 + 3 * j + 2)) : ∀ n e, frf T n e = frf S n e
  | 0, _ => rfl
  | n + 1, e => by unfold frf; rw [h4, h e, frf_cg h4 h n (e + 1)]
theorem gS_eS {h : Nat} {p x y : Int32} (h6 : h < 6) : gS (eS S x y) h p = eS (gS S h p) x y := by
  have e4 : gS S h p 4 = S 4 := gS_un (by omega) (by omega) (by omega) (by omega)
  have e7 : gS S h p 7 = S 7 := gS_un (by omega) (by omega) (by omega) (by omega)
  have ef : fr (gS S h p) = fr S := frf_cg e4 (fun j => gS_un (by omega) (by omega) (by omega) (by omega)) 6 0
  unfold eS
  rw [e7, ef]
  by_cases q : S 7 = 0
  · rw [if_pos q, if_pos q]
  · rw [if_neg q, if_neg q]
    by_cases w : fr S < 6
    · rw [if_pos w, if_pos w]
      unfold lvE
      rw [e4, e7, upd_gS (by omega) h6, upd_gS (by omega) h6, upd_gS (by omega) h6]
    · rw [if_neg w, if_neg w]
/-- the reference's row, in its order -/
theorem gS_bE {h : Nat} {b p : Int32} (h6 : h < 6) : gS (bE b S h) h p = (if b = 0 then mS (gS S h p) else eS (mS (gS S h p)) (S (40 + 6 * h)) (S (40 + 6 * h + 1))) := by
  unfold bE
  by_cases q : b = 0
  · rw [if_pos q, if_pos q, gS_mS]
  · rw [if_neg q, if_neg q, gS_eS h6, gS_mS]
end Pass4
