/-! ===== wordIn, by the machine ===== -/
def kw26 : List (Nat × UI × Nat) := [(0, (.iconst 0, []), 0), (1, (.istore_n 3, []), 0), (2, (.iconst 0, []), 0), (3, (.istore 4, []), 0), (5, (.iconst 0, []), 0), (6, (.istore 5, []), 0), (8, (.iload 5, []), 0), (15, (.if_icmp .ge 80, [95]), 0), (20, (.iload 5, []), 0), (25, (.istore 6, []), 0), (27, (.iload 6, []), 0), (29, (.bipush 32, []), 0), (31, (.if_icmp .ne 22, [53]), 0), (34, (.iload 4, []), 0), (36, (.iload_n 2, []), 0), (37, (.iload_n 1, []), 0), (38, (.isub, []), 0), (39, (.if_icmp .ne 5, [44]), 0), (42, (.iload_n 3, []), 0), (43, (.ireturn, [0]), 0), (44, (.iinc 3 1, []), 0), (47, (.iconst 0, []), 0), (48, (.istore 4, []), 0), (50, (.goto 39, [89]), 0), (53, (.iload 4, []), 0), (55, (.ifCond .lt 31, [86]), 0), (58, (.iload_n 1, []), 0), (59, (.iload 4, []), 0), (61, (.iadd, []), 0), (62, (.iload_n 2, []), 0), (63, (.if_icmp .ge 23, [86]), 0), (66, (.aload_n 0, []), 0), (67, (.getfield 21, [3, 0]), 292), (70, (.iload_n 1, []), 0), (71, (.iload 4, []), 0), (73, (.iadd, []), 0), (74, (.baload, []), 0), (75, (.iload 6, []), 0), (77, (.if_icmp .ne 9, [86]), 0), (80, (.iinc 4 1, []), 0), (83, (.goto 6, [89]), 0), (86, (.iconst (-1), []), 0), (87, (.istore 4, []), 0), (89, (.iinc 5 1, []), 0), (92, (.goto (-84), [8]), 0), (95, (.bipush 34, []), 0), (97, (.ireturn, [0]), 0)]
abbrev um26 : UM := (⟨"HeadCounts$Reader", "wordIn", "(II)I"⟩, prog_5_method_6_code, 7, some .int, 0, 3, 2)
theorem um26_eq : u_mt 26 = um26 := rfl
theorem ko26 : u_okl um26 kw26 = true := by decide +kernel
theorem kc26 : ∀ pc i, u_at kw26 pc = some i → ∃ pl, u_ok "HeadCounts$Reader" prog_5_method_6_code (some .int) false pc i pl = true := fun pc i h => by
  obtain ⟨pl, g, -⟩ := u_okl_ok ko26 pc i h
  exact ⟨pl, g⟩
theorem jd_w10 : decode prog_5_method_6_code 10 = .ok (.ldc 61, 2) := by decide +kernel
theorem jd_w12 : decode prog_5_method_6_code 12 = .ok (.invokevirtual 63, 3) := by decide +kernel
theorem jd_w18 : decode prog_5_method_6_code 18 = .ok (.ldc 61, 2) := by decide +kernel
theorem jd_w22 : decode prog_5_method_6_code 22 = .ok (.invokevirtual 68, 3) := by decide +kernel
theorem jd_w43 : decode prog_5_method_6_code 43 = .ok (.ireturn, 1) := by decide +kernel
theorem jd_w97 : decode prog_5_method_6_code 97 = .ok (.ireturn, 1) := by decide +kernel
theorem wB_eq : wordsL = wB := rfl
theorem wB_len : wB.length = 119 := rfl
section Word
variable {D : va_G} {cA : Nat → ClassId} {base b Ls : Nat} {xs : Nat → Int32} {p : Program} {l : Launch} {e : Env} {R : Room} {s : State} {m : MethodId} {args : Array Value} {below : List Frame} {meth : Method} {c : Code} {Q : State → Prop} {h : UH} {q t : Nat} {L : List (Option Value)} {r : List Value}
theorem we_len (hF : u_Fix D cA base b Ls xs p R s m args meth c "HeadCounts$Reader" prog_5_method_6_code 7) (hj : j_Tx base q t s s.heap) (hd1 : 6 ≤ R.frames) (hd2 : 360 ≤ R.locals) (hcat : (r.map fun v => v.category).sum ≤ 8) (k : u_WE D cA base b Ls xs p l e R s m args below meth c 7 Q h (15, L, .int 119 :: r, h)) : u_WE D cA base b Ls xs p l e R s m args below meth c 7 Q h (12, L, .ref q :: r, h) := by
  intro H locs cells slots ls hI hLR
  obtain ⟨hx, hb, hml, hown, hts, hK, hX, hAO, hbb, hbs, hfr, hlo⟩ := hF
  obtain ⟨hP, hS, e0, e1, e2, hO⟩ := id hI
  dsimp only at e1 e2
  refine j_callV (M := jm_len) (d := 2) (n := 0) (as := []) (r := r) (v := some (.int 119)) (st1 := .int 119 :: r) ⟨hx, hb, hml, hown, hts⟩ (fun U hU hW => by rw [hU]; exact (hj.alike hW.alike).kept hS.2.1) (j_len (d := 0)) (u_tm (pl := 1069) rfl) (List.forall_mem_cons.mpr ⟨u_tm (pl := 1066) rfl, List.forall_mem_cons.mpr ⟨u_tm (pl := 1067) rfl, List.forall_mem_cons.mpr ⟨u_tm (pl := 1068) rfl, List.forall_mem_cons.mpr ⟨u_tm (pl := 271) rfl, fun _ h => absurd h List.not_mem_nil⟩⟩⟩⟩) ⟨by decide, by decide, by decide +kernel⟩ rfl (by decide) (by omega) (by omega) (vk_recv hj.2.2 (i := 0) (by decide) hS) hLR.2.1 hcat jd_w12 ⟨by omega, by omega⟩ rfl rfl (k H locs cells slots ls hI hLR)
theorem we_chr {k : Nat} (hk : k < 119) (hF : u_Fix D cA base b Ls xs p R s m args meth c "HeadCounts$Reader" prog_5_method_6_code 7) (hj : j_Tx base q t s s.heap) (hd1 : 6 ≤ R.frames) (hd2 : 360 ≤ R.locals) (hcat : (r.map fun v => v.category).sum ≤ 8) (kk : u_WE D cA base b Ls xs p l e R s m args below meth c 7 Q h (25, L, .int (wB.getD k 0) :: r, h)) : u_WE D cA base b Ls xs p l e R s m args below meth c 7 Q h (22, L, .int (nI k) :: .ref q :: r, h) := by
  intro H locs cells slots ls hI hLR
  obtain ⟨hx, hb, hml, hown, hts, hK, hX, hAO, hbb, hbs, hfr, hlo⟩ := hF
  obtain ⟨hP, hS, e0, e1, e2, hO⟩ := id hI
  dsimp only at e1 e2
  refine j_callV (M := jm_chr) (d := 4) (n := 1) (as := [.int (nI k)]) (r := r) (v := some (.int (wB.getD k 0))) (st1 := .int (wB.getD k 0) :: r) ⟨hx, hb, hml, hown, hts⟩ (fun U hU hW => by rw [hU]; exact (hj.alike hW.alike).kept hS.2.1) (j_chr (d := 0) hk) (u_tm (pl := 1095) rfl) (List.forall_mem_cons.mpr ⟨u_tm (pl := 1092) rfl, List.forall_mem_cons.mpr ⟨u_tm (pl := 1093) rfl, List.forall_mem_cons.mpr ⟨u_tm (pl := 1094) rfl, List.forall_mem_cons.mpr ⟨u_tm (pl := 271) rfl, fun _ h => absurd h List.not_mem_nil⟩⟩⟩⟩) ⟨by decide, by decide, by decide +kernel⟩ rfl (by decide) (by omega) (by omega) (vk_recv hj.2.2 (i := 0) (by decide) hS) hLR.2.1 hcat jd_w22 ⟨by omega, by omega⟩ rfl rfl (kk H locs cells slots ls hI hLR)
variable {w : Wd} {d : Ad} {a0 : Nat} {s' e' v : Int32}
abbrev wL (a0 : Nat) (s' e' word alike : Int32) (k : Nat) (lt : Option Value) : List (Option Value) := [some (.ref a0), some (.int s'), some (.int e'), some (.int word), some (.int alike), some (.int (nI k)), lt]
theorem we_loop (hF : u_Fix D cA base b Ls xs p R s m args meth c "HeadCounts$Reader" prog_5_method_6_code 7) (hj : j_Tx base q t s s.heap) (hR : vk_R "HeadCounts$Reader" 61 wTx q s) (hd1 : 6 ≤ R.frames) (hd2 : 360 ≤ R.locals) (hW : HW w d h) (hk : aK d a0 = (0, 3, 0)) (hret : ∀ pc L, pc = 43 ∨ pc = 97 → u_WE D cA base b Ls xs p l e R s m args below meth c 7 Q h (pc, L, [.int v], h)) : ∀ (n k : Nat), k + n = 119 → ∀ (word alike : Int32) (lt : Option Value), wd_go (w_row w 11 0 (w_ref w 3 0 a0)) s' e' (wB.drop k) word alike = some v → u_WE D cA base b Ls xs p l e R s m args below meth c 7 Q h (8, wL a0 s' e' word alike k lt, [], h)
  | n, k, hn, word, alike, lt, hg => by
    have hin : false = true → meth.name = "<init>" := fun z => by cases z
    have hh : h.2.1 ≤ h.2.1 + R.cells ∧ h.2.2 ≤ h.2.2 + R.slots := ⟨Nat.le_add_right _ _, Nat.le_add_right _ _⟩
    refine we_segs hF hin kc26 [(8, .iload 5, [])] (by decide +kernel) (y := (10, wL a0 s' e' word alike k lt, [.int (nI k)], h)) rfl hh ?_
    refine we_ldc hF hR jd_w10 ?_
    refine we_len hF hj hd1 hd2 (Nat.le_of_ble_eq_true rfl) ?_
    refine we_ic_ge hF hin kc26 hh (t := 95) (o := 80) rfl (fun z => ?_) (fun z => ?_)
    · have : k = 119 := by
        by_cases k9 : k < 119
        · exact absurd z (Int32.not_le.mpr (show nI k < nI 119 from nI_lt k9 (by decide)))
        · omega
      subst this
      have hv : v = 34 := by
        have : wB.drop 119 = [] := rfl
        rw [this] at hg
        exact (Option.some.inj hg).symm
      subst hv
      refine we_segs hF hin kc26 [(95, .bipush 34, [])] (by decide +kernel) (y := (97, wL a0 s' e' word alike 119 lt, [.int 34], h)) rfl hh (hret 97 _ (Or.inr rfl))
    · have k9 : k < 119 := by
        by_cases k9 : k < 119
        · exact k9
        · exact absurd (show (119 : Int32) ≤ nI k from by rw [show k = 119 by omega]; decide) z
      obtain ⟨n, rfl⟩ : ∃ n', n = n' + 1 := ⟨n - 1, by omega⟩
      have hd : wB.drop k = wB.getD k 0 :: wB.drop (k + 1) := by
        rw [List.drop_eq_getElem_cons (by rw [wB_len]; exact k9), List.getD_eq_getElem?_getD, List.getElem?_eq_getElem (by rw [wB_len]; exact k9)]
        rfl
      rw [hd] at hg
      obtain ⟨ch, hch⟩ : ∃ ch, ch = wB.getD k 0 := ⟨_, rfl⟩
      have nx : nI k + 1 = nI (k + 1) := nI_1 k
      have back : ∀ word' alike', wd_go (w_row w 11 0 (w_ref w 3 0 a0)) s' e' (wB.drop (k + 1)) word' alike' = some v → u_WE D cA base b Ls xs p l e R s m args below meth c 7 Q h (89, wL a0 s' e' word' alike' k (some (.int ch)), [], h) := fun word' alike' g => by
        refine we_segs hF hin kc26 [(89, .iinc 5 1, []), (92, .goto (-84), [8])] (by decide +kernel) (y := (8, wL a0 s' e' word' alike' (k + 1) (some (.int ch)), [], h)) (by rw [show wL a0 s' e' word' alike' (k + 1) (some (.int ch)) = [some (.ref a0), some (.int s'), some (.int e'), some (.int word'), some (.int alike'), some (.int (nI k + 1)), some (.int ch)] by rw [nx]]; rfl) hh ?_
        exact we_loop hF hj hR hd1 hd2 hW hk hret n (k + 1) (by omega) word' alike' _ g
      refine we_ldc hF hR jd_w18 ?_
      refine we_segs hF hin kc26 [(20, .iload 5, [])] (by decide +kernel) (y := (22, wL a0 s' e' word alike k lt, [.int (nI k), .ref q], h)) rfl hh ?_
      refine we_chr k9 hF hj hd1 hd2 (Nat.le_of_ble_eq_true rfl) ?_
      rw [← hch] at hg ⊢
      refine we_segs hF hin kc26 [(25, .istore 6, []), (27, .iload 6, []), (29, .bipush 32, [])] (by decide +kernel) (y := (31, wL a0 s' e' word alike k (some (.int ch)), [.int 32, .int ch], h)) rfl hh ?_
      unfold wd_go at hg
      refine we_ic_ne hF hin kc26 hh (t := 53) (o := 22) rfl (fun z => ?_) (fun z => ?_)
      · rw [if_pos z] at hg
        refine we_segs hF hin kc26 [(34, .iload 4, []), (36, .iload_n 2, []), (37, .iload_n 1, []), (38, .isub, [])] (by decide +kernel) (y := (39, wL a0 s' e' word alike k (some (.int ch)), [.int (e' - s'), .int alike], h)) rfl hh ?_
        refine we_ic_ne hF hin kc26 hh (t := 44) (o := 5) rfl (fun z2 => ?_) (fun z2 => ?_)
        · rw [if_pos z2] at hg
          obtain rfl := Option.some.inj hg
          exact we_segs hF hin kc26 [(42, .iload_n 3, [])] (by decide +kernel) (y := (43, wL a0 s' e' word alike k (some (.int ch)), [.int word], h)) rfl hh (hret 43 _ (Or.inl rfl))
        · rw [if_neg z2] at hg
          exact we_segs hF hin kc26 [(44, .iinc 3 1, []), (47, .iconst 0, []), (48, .istore 4, []), (50, .goto 39, [89])] (by decide +kernel) (y := (89, wL a0 s' e' (word + 1) 0 k (some (.int ch)), [], h)) rfl hh (back _ _ hg)
      · rw [if_neg z] at hg
        have none86 : wd_go (w_row w 11 0 (w_ref w 3 0 a0)) s' e' (wB.drop (k + 1)) word (-1) = some v → u_WE D cA base b Ls xs p l e R s m args below meth c 7 Q h (86, wL a0 s' e' word alike k (some (.int ch)), [], h) := fun g =>
          we_segs hF hin kc26 [(86, .iconst (-1), []), (87, .istore 4, [])] (by decide +kernel) (y := (89, wL a0 s' e' word (-1) k (some (.int ch)), [], h)) rfl hh (back _ _ g)
        refine we_segs hF hin kc26 [(53, .iload 4, [])] (by decide +kernel) (y := (55, wL a0 s' e' word alike k (some (.int ch)), [.int alike], h)) rfl hh ?_
        refine we_if_lt hF hin kc26 hh (t := 86) (o := 31) rfl (fun z2 => ?_) (fun z2 => ?_)
        · rw [if_neg (fun q => absurd z2 (Int32.not_lt.mpr q.1))] at hg
          exact none86 hg
        refine we_segs hF hin kc26 [(58, .iload_n 1, []), (59, .iload 4, []), (61, .iadd, []), (62, .iload_n 2, [])] (by decide +kernel) (y := (63, wL a0 s' e' word alike k (some (.int ch)), [.int e', .int (s' + alike)], h)) rfl hh ?_
        refine we_ic_ge hF hin kc26 hh (t := 86) (o := 23) rfl (fun z3 => ?_) (fun z3 => ?_)
        · rw [if_neg (fun q => absurd q.2 (Int32.not_lt.mpr z3))] at hg
          exact none86 hg
        rw [if_pos ⟨Int32.not_lt.mp z2, Int32.not_le.mp z3⟩] at hg
        obtain ⟨tv, ht, hg⟩ := ob_some hg
        refine we_segs hF hin kc26 [(66, .aload_n 0, [])] (by decide +kernel) (y := (67, wL a0 s' e' word alike k (some (.int ch)), [.ref a0], h)) rfl hh ?_
        refine we_get hF hin kc26 hh (x := 21) (ci := 3) (k := 0) (v := .ref (aP d 11 0 (w_ref w 3 0 a0))) rfl hW hk (by decide) rfl ?_
        refine we_segs hF hin kc26 [(70, .iload_n 1, []), (71, .iload 4, []), (73, .iadd, [])] (by decide +kernel) (y := (74, wL a0 s' e' word alike k (some (.int ch)), [.int (s' + alike), .ref (aP d 11 0 (w_ref w 3 0 a0))], h)) rfl hh ?_
        refine we_bald hF hin kc26 hh rfl hW (wf_tape (k := 0) (x := 0) (n := 400) hW hk (by decide) rfl) rfl (by decide) ht ?_
        refine we_segs hF hin kc26 [(75, .iload 6, [])] (by decide +kernel) (y := (77, wL a0 s' e' word alike k (some (.int ch)), [.int ch, .int tv], h)) rfl hh ?_
        refine we_ic_ne hF hin kc26 hh (t := 86) (o := 9) rfl (fun z4 => ?_) (fun z4 => ?_)
        · rw [if_pos z4] at hg
          exact we_segs hF hin kc26 [(80, .iinc 4 1, []), (83, .goto 6, [89])] (by decide +kernel) (y := (89, wL a0 s' e' word (alike + 1) k (some (.int ch)), [], h)) rfl hh (back _ _ hg)
        · rw [if_neg z4] at hg
          exact none86 hg
theorem met_26 {d' : Nat} {as : List Value} {res : UR} (hbb : b < base) (hs : sp_word as h res) : u_Met D cA base b Ls xs l (d' + 1) (u_mt 26) as h res := by
  obtain ⟨w, d, a0, s', e', v, rfl, hW, hk, hv, rfl⟩ := hs
  rw [um26_eq]
  have hm := mo_26
  rw [um26_eq] at hm
  refine Met.ofW (cc := prog_5_method_6_code) (maxL := 7) (ret := some .int) hm.1 rfl ?_
  intro p e s m args below meth c s₁ B hml hv2
  obtain ⟨rfl, hsz, hP, hK, hX, hAO, hb0, hO⟩ := hv2
  have hts := atoms_spec (ws := m_ws um26) B.pre
  have hF : u_Fix D cA base b Ls xs p (u_rm (d' + 1) h h) s m [.ref a0, .int s', .int e'].toArray meth c "HeadCounts$Reader" prog_5_method_6_code 7 := ⟨B.exec, B.bytes, hml, findClass_of_methodNamed B.named, fun w hw => hts w (List.mem_cons_of_mem _ hw), hK, hX, hAO, hbb, by rw [hsz]; exact hb0, Nat.succ_le_succ (Nat.zero_le _), Nat.mul_le_mul (Nat.le_refl 60) (Nat.le_add_left 1 (d' + 1 + 7))⟩
  obtain ⟨q, t, hj, hR⟩ := hX.2.j
  rw [lg_entry_eq]
  have hl := lv_entry [.ref a0, .int s', .int e'] (n := 7) (Nat.le_of_ble_eq_true rfl)
  generalize (lg_sl [Value.ref a0, .int s', .int e'] ++ List.replicate (7 - (lg_sl [Value.ref a0, .int s', .int e']).length) Slot.unset).toArray = ls at hl ⊢
  have hin : false = true → meth.name = "<init>" := fun z => by cases z
  have hret : ∀ pc L, pc = 43 ∨ pc = 97 → u_WE D cA base b Ls xs p l e (u_rm (d' + 1) h h) s m [.ref a0, .int s', .int e'].toArray below meth c 7 (MQ below (u_Qc D cA base b Ls xs (some (.int v), h)) [.ref a0, .int s', .int e'].toArray s (h.2.1 - h.2.1) (h.2.2 - h.2.2) (fun q => base ≤ q)) h (pc, L, [.int v], h) := fun pc L hpc H locs cells slots ls hI hLR => by
    refine W_szle fun hz => ?_
    have hsz2 := u_size hF hI hz
    obtain ⟨hP2, hS2, z0, z1, z2, hO2⟩ := hI
    dsimp only at z1 z2 hsz2 hP2 hO2 ⊢
    refine W.widen (k := h.2.1 - h.2.1) (n := h.2.2 - h.2.2) (by omega) (by omega) ?_
    have hq : ∀ t : State, t.heap = H → s.WarmedH t.vm → u_Qc D cA base b Ls xs (some (.int v), h) [.ref a0, .int s', .int e'].toArray s (.returned (some (.int v))) t := fun t hH _ => ⟨rfl, by rw [hH]; exact hsz2, by rw [hH]; exact hP2, hO2, hS2.F hH⟩
    rcases hpc with rfl | rfl
    · exact W.iret B.exec B.bytes B.returns hq hS2.2.2 jd_w43
    · exact W.iret B.exec B.bytes B.returns hq hS2.2.2 jd_w97
  have hh : h.2.1 ≤ h.2.1 + (u_rm (d' + 1) h h).cells ∧ h.2.2 ≤ h.2.2 + (u_rm (d' + 1) h h).slots := ⟨Nat.le_add_right _ _, Nat.le_add_right _ _⟩
  have we0 : u_WE D cA base b Ls xs p l e (u_rm (d' + 1) h h) s m [.ref a0, .int s', .int e'].toArray below meth c 7 (MQ below (u_Qc D cA base b Ls xs (some (.int v), h)) [.ref a0, .int s', .int e'].toArray s (h.2.1 - h.2.1) (h.2.2 - h.2.2) (fun q => base ≤ q)) h (0, u_ent 7 [.ref a0, .int s', .int e'], [], h) := by
    refine we_segs hF hin kc26 [(0, .iconst 0, []), (1, .istore_n 3, []), (2, .iconst 0, []), (3, .istore 4, []), (5, .iconst 0, []), (6, .istore 5, [])] (by decide +kernel) (y := (8, wL a0 s' e' 0 0 0 none, [], h)) rfl hh ?_
    exact we_loop hF hj hR (show 6 ≤ d' + 1 + 8 by omega) (show 360 ≤ 60 * (d' + 1 + 8) from Nat.mul_le_mul (Nat.le_refl 60) (Nat.le_trans (show 6 ≤ 9 by decide) (Nat.le_add_left 9 d'))) hW hk hret 119 0 rfl 0 0 none hv
  exact we0 s.heap [] 0 0 ls ⟨hP, va_S.rf, hsz, rfl, rfl, hO⟩ (u_ent_LR (Nat.le_of_ble_eq_true rfl) hl)
end Word
