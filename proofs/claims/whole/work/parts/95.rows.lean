/-! ===== a situation is queued with its mark, and looked up (the class since 00a0626) ===== -/
section Put
variable {c6 c13 : Cl} {d : Ad} {sc : Nat}
theorem f_308 {P Z s : Nat} (e12 : cR c6 12 sc = P) (n1 : aN d P = Z) (hs : s < Z) (hZ : Z < 2 ^ 31) : F_308 c6 d sc (nI s) = some 1 := by
  unfold F_308
  rw [e12, n1, show Int32.ofNat Z = nI Z from rfl]
  exact ob_mk (v := 1) (in_neg (nI_pos (by omega)) (in_neg (nI_ge hs hZ) rfl)) (ob_mk (v := 1) rfl rfl)
theorem f_309 {P Z s : Nat} (e12 : cR c6 12 sc = P) (n1 : aN d P = Z) (hs : s < Z) (hZ : Z < 2 ^ 31) : F_309 c6 c13 d sc (nI s) = some (if cB c13 0 P s = 0 then 0 else 1) := by
  unfold F_309
  refine ob_mk (f_308 e12 n1 hs hZ) ?_
  rw [e12, n1]
  by_cases q : cB c13 0 P s = 0
  · rw [if_pos q]
    exact ob_mk (v := 0) (in_neg (by decide) (ob_mk (ldl_ok hs hZ) (in_pos (lgz.mpr q) rfl))) (ob_mk (v := 0) rfl rfl)
  · rw [if_neg q]
    exact ob_mk (v := 1) (in_neg (by decide) (ob_mk (ldl_ok hs hZ) (in_neg (fun z => q (lgz.mp z)) rfl))) (ob_mk (v := 1) rfl rfl)
theorem f_307 {P Pq Z s n : Nat} {v : Int64} (e12 : cR c6 12 sc = P) (e14 : cR c6 14 sc = Pq) (n1 : aN d P = Z) (n2 : aN d Pq = Z) (hs : s < Z) (hn : n < Z) (hZ : Z < 2 ^ 31) : F_307 c6 c13 d sc (nI s) v (nI n) = some (nI (n + 1), sA (sB c13 0 P (vp_updL (cB c13 0 P) s v)) 0 Pq (upd (cA c13 0 Pq) n (nI s))) := by
  unfold F_307
  refine ob_mk (f_308 e12 n1 hs hZ) ?_
  rw [e12, e14, n1, n2, show Int32.ofNat Z = nI Z from rfl]
  refine in_neg (by decide) (in_neg (nI_pos (by omega)) (in_pos (nI_lt hn hZ) (ob_mk (stl_ok hs hZ) (ob_mk (ast_ok hn hZ) ?_))))
  rw [nI_1, cA_sB]
theorem f_310 {s i p R : Nat} (hi : i < 6) (e6 : cA c6 6 sc i = nI p) (e0 : cI c6 0 sc = nI R) (p0 : 0 < p) (p1 : p < 2 ^ 31) (R0 : 0 < R) (R1 : R < 2 ^ 31) (hs : s < 2 ^ 31) : F_310 c6 sc (nI s) (nI i) = some (nI (s / p % R)) := by
  have dl : s / p ≤ s := Nat.div_le_self _ _
  unfold F_310
  refine ob_mk (ald_ok hi (by decide)) ?_
  rw [e6, e0]
  exact ob_mk (v := nI (s / p % R)) (in_neg (nI_nle p0 p1) (in_neg (nI_nle R0 R1) (ob_mk (v := nI (s / p)) (by unfold idv; rw [if_neg (nI_ne0 p0 p1)]; exact congrArg some (pk_div hs p0 p1)) (ob_mk (irm_ok (by omega) R0 R1) rfl)))) rfl
end Put
/-! ===== the class's rows of situations: marks, queues; new rows ===== -/
/-- all addresses but some are as they were -/
def Ota (L : List Nat) (c c' : Cl) : Prop := ∀ k a, a ∉ L → cI c' k a = cI c k a ∧ cJ c' k a = cJ c k a ∧ cR c' k a = cR c k a ∧ cA c' k a = cA c k a ∧ cB c' k a = cB c k a ∧ cQ c' k a = cQ c k a
theorem ota_rf (L : List Nat) (c : Cl) : Ota L c c := fun _ _ _ => ⟨rfl, rfl, rfl, rfl, rfl, rfl⟩
theorem ota_tr {L : List Nat} {c c' c'' : Cl} (h : Ota L c c') (h' : Ota L c' c'') : Ota L c c'' := fun k a n => by
  obtain ⟨a1, a2, a3, a4, a5, a6⟩ := h k a n
  obtain ⟨b1, b2, b3, b4, b5, b6⟩ := h' k a n
  exact ⟨b1.trans a1, b2.trans a2, b3.trans a3, b4.trans a4, b5.trans a5, b6.trans a6⟩
theorem ota_wd {L L' : List Nat} {c c' : Cl} (h : Ota L c c') (hl : ∀ a, a ∈ L → a ∈ L') : Ota L' c c' := fun k a n => h k a (fun z => n (hl a z))
theorem ota_o {L : List Nat} {a : Nat} {c c' : Cl} (h : Oth a c c') (hl : a ∈ L) : Ota L c c' := fun k b n => h k b (fun z => n (by rw [z]; exact hl))
/-- a row of marks over situations, and those that are marked, one after the other -/
def AQ (c : Cl) (P Pq N Z : Nat) (f : Nat → Nat) (n : Nat) (u : Nat → Nat) : Prop := (∀ s, s < N → cB c 0 P s = lN (f s)) ∧ (∀ s, N ≤ s → s < Z → cB c 0 P s = 0) ∧ (∀ j, j < n → cA c 0 Pq j = nI (u j) ∧ u j < N ∧ f (u j) ≠ 0) ∧ (∀ i j, i < n → j < n → u i = u j → i = j) ∧ (∀ s, s < N → f s ≠ 0 → ∃ j, j < n ∧ u j = s)
theorem aq_cg {c c' : Cl} {P Pq N Z n : Nat} {f f' u : Nat → Nat} (h : AQ c P Pq N Z f n u) (hf : ∀ s, s < N → f' s = f s) (hb : cB c' 0 P = cB c 0 P) (ha : cA c' 0 Pq = cA c 0 Pq) : AQ c' P Pq N Z f' n u := by
  obtain ⟨a, b, e, g, i⟩ := h
  exact ⟨fun s hs => by rw [hb, hf s hs]; exact a s hs, fun s h1 h2 => by rw [hb]; exact b s h1 h2, fun j hj => by rw [ha, hf _ (e j hj).2.1]; exact e j hj, g, fun s hs z => i s hs (by rw [← hf s hs]; exact z)⟩
theorem aq_cnt {c : Cl} {P Pq N Z n : Nat} {f u : Nat → Nat} (h : AQ c P Pq N Z f n u) : n = sn (fun s => if f s = 0 then 0 else 1) N := by
  obtain ⟨a, b, e, g, i⟩ := h
  rw [inj_sum (N := n) (φ := u) g (fun j hj => (e j hj).2.1) (fun s hs z => i s hs (fun q => z (if_pos q)))]
  rw [sn_cg (g := fun _ => 1) (fun j hj => if_neg (e j hj).2.2), sn_k, Nat.mul_one]
theorem aq_n {c : Cl} {P Pq N Z n : Nat} {f u : Nat → Nat} (h : AQ c P Pq N Z f n u) : n ≤ N := by
  have := aq_cnt h
  have l := sn_le (f := fun s => if f s = 0 then 0 else 1) (g := fun _ => 1) (n := N) (fun i _ => by show (if f i = 0 then 0 else 1) ≤ 1; split <;> omega)
  rw [sn_k, Nat.mul_one] at l
  omega
theorem aq_lt {c : Cl} {P Pq N Z n : Nat} {f u : Nat → Nat} (h : AQ c P Pq N Z f n u) {s : Nat} (hs : s < N) (hz : f s = 0) : n < N := by
  have e := aq_cnt h
  have up := sn_up (f := fun s => if f s = 0 then 0 else 1) (i := s) (v := 1) hs
  rw [if_pos hz] at up
  have l := sn_le (f := fun j => if j = s then 1 else if f j = 0 then 0 else 1) (g := fun _ => 1) (n := N) (fun i _ => by show (if i = s then 1 else if f i = 0 then 0 else 1) ≤ 1; split <;> (try split) <;> omega)
  rw [sn_k, Nat.mul_one] at l
  omega
/-- a sum over those that are marked -/
theorem aq_sum {c : Cl} {P Pq N Z n : Nat} {f u : Nat → Nat} (h : AQ c P Pq N Z f n u) {G : Nat → Nat} (hG : ∀ s, s < N → f s = 0 → G s = 0) : sn (fun j => G (u j)) n = sn G N := by
  obtain ⟨a, b, e, g, i⟩ := h
  exact (inj_sum (N := n) (φ := u) g (fun j hj => (e j hj).2.1) (fun s hs z => i s hs (fun q => z (hG s hs q)))).symm
theorem aq_0 {c : Cl} {P Pq N Z : Nat} {u : Nat → Nat} (hz : ∀ s, s < Z → cB c 0 P s = 0) (hN : N ≤ Z) : AQ c P Pq N Z (fun _ => 0) 0 u := ⟨fun s hs => hz s (by omega), fun s _ h => hz s h, fun j hj => absurd hj (Nat.not_lt_zero _), fun i j hi => absurd hi (Nat.not_lt_zero _), fun s _ z => absurd rfl z⟩
section Rows
variable {c6 c7 c13 : Cl} {d : Ad} {sc sr : Nat}
/-- ways are added to a situation -/
theorem f_73 {P' Pq' N Z n s v : Nat} {f u : Nat → Nat} (e7 : cR c7 0 sr = sc) (e13 : cR c6 13 sc = P') (e15 : cR c6 15 sc = Pq') (n1 : aN d P' = Z) (n2 : aN d Pq' = Z) (hN : N ≤ Z) (hZ : Z < 2 ^ 31) (h : AQ c13 P' Pq' N Z f n u) (hs : s < N) (hv : 0 < v) (hb : f s + v < 2 ^ 60) : Rn (F_73 c6 c7 c13 d sr (nI s) (lN v) (nI n)) (fun r => ∃ n' u', r.1 = nI n' ∧ AQ r.2 P' Pq' N Z (fun t => f t + if s = t then v else 0) n' u' ∧ Ota [P', Pq'] c13 r.2) := by
  obtain ⟨a, b, e, g, i⟩ := id h
  have nN := aq_n h
  unfold F_73
  rw [e7, e13, e15, n1, n2]
  refine rn_n (nI_pos (by omega)) (rn_p (show nI s < nI Z from nI_lt (by omega) hZ) (rn_ll (by omega) hZ ?_))
  rw [a s hs]
  by_cases q : f s = 0
  · have lt := aq_lt h hs q
    refine rn_e (v := 1) (in_pos (lgz.mpr (by rw [q]; rfl)) rfl) (rn_ll (by omega) hZ (rn_sl (by omega) hZ (rn_n (by decide) (rn_n (nI_pos (by omega)) (rn_p (show nI n < nI Z from nI_lt (by omega) hZ) (rn_e (ast_ok (show n < Z by omega) hZ) (rn_r ⟨n + 1, fun j => if j = n then s else u j, nI_1 n, ?_, ?_⟩)))))))
    · have oB : cB (sA (sB c13 0 P' (vp_updL (cB c13 0 P') s (cB c13 0 P' s + lN v))) 0 Pq' (upd (cA (sB c13 0 P' (vp_updL (cB c13 0 P') s (cB c13 0 P' s + lN v))) 0 Pq') n (nI s))) 0 P' = vp_updL (cB c13 0 P') s (lN (f s + v)) := by rw [cB_sA, cB_same, a s hs, lN_add]
      have oA : cA (sA (sB c13 0 P' (vp_updL (cB c13 0 P') s (cB c13 0 P' s + lN v))) 0 Pq' (upd (cA (sB c13 0 P' (vp_updL (cB c13 0 P') s (cB c13 0 P' s + lN v))) 0 Pq') n (nI s))) 0 Pq' = upd (cA c13 0 Pq') n (nI s) := by rw [cA_same, cA_sB]
      refine ⟨fun t ht => ?_, fun t h1 h2 => ?_, fun j hj => ?_, fun i' j hi' hj z => ?_, fun t ht z => ?_⟩
      · dsimp only
        rw [oB]
        by_cases w : t = s
        · subst w; rw [pk_uLs, if_pos rfl]
        · rw [pk_uLn w, if_neg (fun z => w z.symm), Nat.add_zero]; exact a t ht
      · dsimp only
        rw [oB, pk_uLn (by omega)]; exact b t h1 h2
      · dsimp only
        rw [oA]
        by_cases w : j = n
        · subst w; rw [pk_us, if_pos rfl, if_pos rfl]; exact ⟨rfl, hs, by omega⟩
        · rw [pk_un w, if_neg w]
          obtain ⟨x1, x2, x3⟩ := e j (by omega)
          exact ⟨x1, x2, by omega⟩
      · dsimp only at z
        have ns : ∀ k, k < n → u k ≠ s := fun k hk w => (e k hk).2.2 (by rw [w]; exact q)
        by_cases w : i' = n
        · by_cases w2 : j = n
          · omega
          · rw [if_pos w, if_neg w2] at z
            exact absurd z.symm (ns j (by omega))
        · by_cases w2 : j = n
          · rw [if_neg w, if_pos w2] at z
            exact absurd z (ns i' (by omega))
          · rw [if_neg w, if_neg w2] at z
            exact g i' j (by omega) (by omega) z
      · by_cases w : s = t
        · exact ⟨n, Nat.lt_succ_self _, by dsimp only; rw [if_pos rfl]; exact w⟩
        · dsimp only at z
          rw [if_neg w, Nat.add_zero] at z
          obtain ⟨j, hj, ej⟩ := i t ht z
          exact ⟨j, by omega, by dsimp only; rw [if_neg (by omega)]; exact ej⟩
    · exact ota_tr (ota_o oth_B (by simp)) (ota_o oth_A (by simp))
  · refine rn_e (v := 0) (in_neg (fun z => q ((lN_z (by omega)).mp (lgz.mp z))) rfl) (rn_ll (by omega) hZ (rn_sl (by omega) hZ (rn_p rfl (rn_r ⟨n, u, rfl, ?_, ota_o oth_B (by simp)⟩))))
    have oB : cB (sB c13 0 P' (vp_updL (cB c13 0 P') s (cB c13 0 P' s + lN v))) 0 P' = vp_updL (cB c13 0 P') s (lN (f s + v)) := by rw [cB_same, a s hs, lN_add]
    refine ⟨fun t ht => ?_, fun t h1 h2 => ?_, fun j hj => ?_, g, fun t ht z => ?_⟩
    · dsimp only
      rw [oB]
      by_cases w : t = s
      · subst w; rw [pk_uLs, if_pos rfl]
      · rw [pk_uLn w, if_neg (fun z => w z.symm), Nat.add_zero]; exact a t ht
    · dsimp only
      rw [oB, pk_uLn (by omega)]; exact b t h1 h2
    · dsimp only
      rw [cA_sB]
      obtain ⟨x1, x2, x3⟩ := e j hj
      exact ⟨x1, x2, by omega⟩
    · by_cases w : s = t
      · exact i t ht (by rw [← w]; exact q)
      · dsimp only at z
        rw [if_neg w, Nat.add_zero] at z; exact i t ht z
end Rows
/-- where the rows of a scene lie -/
def Rows (c6 : Cl) (d : Ad) (sc P Pq P' Pq' Z Z' : Nat) : Prop := (cR c6 12 sc = P ∧ cR c6 14 sc = Pq ∧ cR c6 13 sc = P' ∧ cR c6 15 sc = Pq') ∧ (aN d P = Z ∧ aN d Pq = Z ∧ aN d P' = Z' ∧ aN d Pq' = Z') ∧ (Z ≤ 46656 ∧ Z' ≤ 46656) ∧ (P < aX d ∧ Pq < aX d ∧ P' < aX d ∧ Pq' < aX d) ∧ P ≠ Pq ∧ P ≠ P' ∧ P ≠ Pq' ∧ Pq ≠ P' ∧ Pq ≠ Pq' ∧ P' ≠ Pq'
/-- slots for rows of all sizes up to one -/
def pot (Z : Nat) : Nat := sn (fun r => sn (fun h => if r ^ h ≤ Z then 2 * r ^ h else 0) 7) 7
theorem pot_up {Z R l : Nat} (hR : R < 7) (hl : l < 7) (h : Z < R ^ l) : pot Z + 2 * R ^ l ≤ pot (R ^ l) := by
  have tm : ∀ r h, (if r ^ h ≤ Z then 2 * r ^ h else 0) ≤ (if r ^ h ≤ R ^ l then 2 * r ^ h else 0) := fun r h => by
    by_cases w : r ^ h ≤ Z
    · rw [if_pos w, if_pos (by omega)]; exact Nat.le_refl _
    · rw [if_neg w]; exact Nat.zero_le _
  have row : sn (fun h => if R ^ h ≤ Z then 2 * R ^ h else 0) 7 + 2 * R ^ l ≤ sn (fun h => if R ^ h ≤ R ^ l then 2 * R ^ h else 0) 7 := by
    have up := sn_up (f := fun h => if R ^ h ≤ Z then 2 * R ^ h else 0) (i := l) (v := 2 * R ^ l) hl
    rw [if_neg (by omega), Nat.add_zero] at up
    rw [← up]
    refine sn_le fun h _ => ?_
    by_cases w : h = l
    · subst w; rw [if_pos rfl, if_pos (Nat.le_refl _)]; exact Nat.le_refl _
    · rw [if_neg w]; exact tm R h
  have up := sn_up (f := fun r => sn (fun h => if r ^ h ≤ Z then 2 * r ^ h else 0) 7) (i := R) (v := sn (fun h => if R ^ h ≤ Z then 2 * R ^ h else 0) 7 + 2 * R ^ l) hR
  have e : pot Z + 2 * R ^ l = sn (fun r => if r = R then sn (fun h => if R ^ h ≤ Z then 2 * R ^ h else 0) 7 + 2 * R ^ l else sn (fun h => if r ^ h ≤ Z then 2 * r ^ h else 0) 7) 7 := by
    unfold pot; omega
  rw [e]
  refine sn_le fun r _ => ?_
  by_cases w : r = R
  · subst w; rw [if_pos rfl]; exact row
  · rw [if_neg w]; exact sn_le fun h _ => tm r h
/-- more cells: what is known of the old ones stays -/
def Adm (d d' : Ad) : Prop := aX d ≤ aX d' ∧ (∀ a, a < aX d → aN d' a = aN d a) ∧ aL d' = aL d ∧ aT d' = aT d
theorem adm_rf (d : Ad) : Adm d d := ⟨Nat.le_refl _, fun _ _ => rfl, rfl, rfl⟩
theorem adm_tr {d d' d'' : Ad} (h : Adm d d') (h' : Adm d' d'') : Adm d d'' := ⟨Nat.le_trans h.1 h'.1, fun a ha => (h'.2.1 a (Nat.lt_of_lt_of_le ha h.1)).trans (h.2.1 a ha), h'.2.2.1.trans h.2.2.1, h'.2.2.2.trans h.2.2.2⟩
theorem adm_n (d : Ad) (t n : Nat) : Adm d (adn d t n) := ⟨Nat.le_succ _, fun a ha => by show va_up d.2.2.2.1 (aX d) n a = d.2.2.2.1 a; unfold va_up; rw [if_neg (Nat.ne_of_lt ha)], rfl, rfl⟩
