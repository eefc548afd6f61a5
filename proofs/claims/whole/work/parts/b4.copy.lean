/-! ===== Arrays.copyOf, by the machine ===== -/
def kw305 : List (Nat × UI × Nat) := [(0, (.iload_n 1, []), 0), (1, (.aload_n 0, []), 0), (2, (.arraylength, []), 0), (3, (.if_icmp .ne 11, [14]), 0), (6, (.aload_n 0, []), 0), (13, (.areturn, []), 0), (14, (.iload_n 1, []), 0), (15, (.newarray .int, [1]), 0), (17, (.astore_n 2, []), 0), (18, (.aload_n 0, []), 0), (19, (.iconst 0, []), 0), (20, (.aload_n 2, []), 0), (21, (.iconst 0, []), 0), (22, (.aload_n 0, []), 0), (23, (.arraylength, []), 0), (24, (.iload_n 1, []), 0), (28, (.invokestatic 150, []), 1357), (31, (.aload_n 2, []), 0), (32, (.areturn, []), 0)]
abbrev um305 : UM := (⟨"java/util/Arrays", "copyOf", "([II)[I"⟩, prog_22_method_123_code, 3, some (.array .int), 1, 99, 2)
theorem um305_eq : u_mt 305 = um305 := rfl
theorem ko305 : u_okl um305 kw305 = true := by decide +kernel
theorem kc305 : ∀ pc i, u_at kw305 pc = some i → ∃ pl, u_ok "java/util/Arrays" prog_22_method_123_code (some (.array .int)) false pc i pl = true := fun pc i h => by
  obtain ⟨pl, g, -⟩ := u_okl_ok ko305 pc i h
  exact ⟨pl, g⟩
theorem jd_c7 : decode prog_22_method_123_code 7 = .ok (.invokevirtual 316, 3) := by decide +kernel
theorem jd_c10 : decode prog_22_method_123_code 10 = .ok (.checkcast 317, 3) := by decide +kernel
theorem jd_c13 : decode prog_22_method_123_code 13 = .ok (.areturn, 1) := by decide +kernel
theorem jd_c25 : decode prog_22_method_123_code 25 = .ok (.invokestatic 304, 3) := by decide +kernel
theorem jd_c32 : decode prog_22_method_123_code 32 = .ok (.areturn, 1) := by decide +kernel
section Copy
variable {D : va_G} {cA : Nat → ClassId} {base b Ls : Nat} {xs : Nat → Int32} {p : Program} {l : Launch} {e : Env} {R : Room} {s : State} {m : MethodId} {args : Array Value} {below : List Frame} {meth : Method} {c : Code} {Q : State → Prop} {h h0 : UH} {L : List (Option Value)} {r : List Value} {H : Heap}
/-- cells that hold the same -/
theorem u_P_eq {h1 h2 : UH} (hs : h1.2 = h2.2) (he : ∀ a, h1.1 a = h2.1 a ∨ ∃ t n f g, h1.1 a = .inl (t, n, .inl f) ∧ h2.1 a = .inl (t, n, .inl g) ∧ ∀ j, j < n → f j = g j) (hP : va_P D vwCl (u_w base cA h1) H) : va_P D vwCl (u_w base cA h2) H := by
  intro k q hk
  obtain ⟨rfl, hlt⟩ := u_w_get hk
  obtain ⟨k', hk'⟩ := u_w_at (cA := cA) (h := h1) (a := base + k) (Nat.le_add_right _ _) (by rw [hs]; exact hlt)
  have g := hP k' _ hk'
  rcases he (base + k) with e | ⟨t, n, f, g', e1, e2, e3⟩
  · rw [← e]; exact g
  · rw [e1] at g
    rw [e2]
    have ef : (fun j : Fin n => Value.int (f j.val)) = (fun j : Fin n => Value.int (g' j.val)) := funext fun j => by rw [e3 j.val j.isLt]
    have : vp_cell (cA t) (n, .inl f) = vp_cell (cA t) (n, .inl g') := congrArg (fun z => ({ cls := cA t, slots := Array.ofFn (n := n) z, vm := .none } : Cell)) ef
    show H[base + k]? = some (vp_cell (cA t) (n, .inl g'))
    rw [← this]
    exact g
theorem we_alen {pc n0 a : Nat} {t : Nat} {f : vp_A} (hF : u_Fix D cA base b Ls xs p R s m args meth c "java/util/Arrays" prog_22_method_123_code 3) (hh : h.2.1 ≤ h0.2.1 + R.cells ∧ h.2.2 ≤ h0.2.2 + R.slots) (hc : u_at kw305 pc = some (.arraylength, [])) (ha : h.1 a = .inl (1, f)) (hn : f.1 = n0) (k : u_WE D cA base b Ls xs p l e R s m args below meth c 3 Q h0 (pc + 1, L, .int (nI n0) :: r, h)) : u_WE D cA base b Ls xs p l e R s m args below meth c 3 Q h0 (pc, L, .ref a :: r, h) := by
  refine we_step hF (init := false) (fun z => by cases z) kc305 hc ?_ hh k
  show (match u_len h a with | some n => some (.inl (pc + 1, L, .int (Int32.ofNat n) :: r, h)) | none => none : UO) = _
  have : u_len h a = some n0 := by
    obtain ⟨fn, ff⟩ := f
    unfold u_len
    rw [ha, ← hn]; rfl
  rw [this]; rfl
theorem we_clone {a n0 : Nat} {f : Nat → Int32} (hF : u_Fix D cA base b Ls xs p R s m args meth c "java/util/Arrays" prog_22_method_123_code 3) (ha : h.1 a = .inl (1, n0, .inl f)) (hh : h.2.1 + 1 ≤ h0.2.1 + R.cells ∧ h.2.2 + n0 ≤ h0.2.2 + R.slots) (k : u_WE D cA base b Ls xs p l e R s m args below meth c 3 Q h0 (10, L, [.ref h.2.1], u_new h (.inl (1, n0, .inl f)) n0)) : u_WE D cA base b Ls xs p l e R s m args below meth c 3 Q h0 (7, L, [.ref a], h) := by
  intro H locs cells slots ls hI hLR
  obtain ⟨hx, hb, hml, hown, hts, hK, hX, hAO, hbb, hbs, hfr, hlo⟩ := hF
  obtain ⟨hP, hS, e0, e1, e2, hO⟩ := hI
  dsimp only at hP e1 e2 hO hLR ⊢
  obtain ⟨g1, g2⟩ : base ≤ a ∧ a < h.2.1 := by
    rcases u_pool_a hO ha with g | ⟨-, g, -⟩
    · exact g
    · exact absurd g (by decide)
  obtain ⟨k0, hk0⟩ := u_w_at (cA := cA) g1 g2
  rw [ha] at hk0
  have hb2 : base ≤ h.2.1 := by omega
  refine va_clone (ad := "[I") (cA := cA 1) (x := (n0, .inl f)) (ty := .int) hx hb (hml.trans hLR.2.1.symm) hown (hts _ (u_tm (pl := 1349) rfl)) (hts _ (u_tm (pl := 1350) rfl)) (hts _ (u_tm (pl := 1351) rfl)) (hts _ (u_tm (pl := 1352) rfl)) (hts _ (u_tm (pl := 1353) rfl)) hX.2.1 hK hP (u_w_D base cA h) hS (fun q hq => Nat.le_trans hbs hq) k0 1 hk0 rfl (va_nm_int (hK.2 1 _ rfl).2) (fun i v hv => ?_) hfr (by show 0 + 14 ≤ R.locals; omega) (by omega) (by show slots + n0 ≤ R.slots; omega) jd_c7 (fun q0 H1 hK1 q1 q2 q3 => ?_)
  · rw [vp_cell_i] at hv
    unfold arrV at hv
    simp only [Array.getElem?_ofFn] at hv
    split at hv
    · cases hv; rfl
    · cases hv
  · refine W_szle fun hz => ?_
    obtain rfl := u_fresh (h0 := h0) (slots := slots) ⟨hP, hS, e0, e1, e2, hO⟩ hbs q1 q2 hz
    exact k H1 locs (cells + 1) (slots + n0) ls ⟨by rw [← u_w_push hb2]; exact q1, q3, e0, by show h0.2.1 + (cells + 1) = h.2.1 + 1; omega, by show h0.2.2 + (slots + n0) = h.2.2 + n0; omega, u_out_new hO hb2⟩ hLR
theorem we_cast {a n0 : Nat} {f : Nat → Int32} (hF : u_Fix D cA base b Ls xs p R s m args meth c "java/util/Arrays" prog_22_method_123_code 3) (ha : h.1 a = .inl (1, n0, .inl f)) (k : u_WE D cA base b Ls xs p l e R s m args below meth c 3 Q h0 (13, L, [.ref a], h)) : u_WE D cA base b Ls xs p l e R s m args below meth c 3 Q h0 (10, L, [.ref a], h) := by
  intro H locs cells slots ls hI hLR
  obtain ⟨hx, hb, hml, hown, hts, hK, hX, hAO, hbb, hbs, hfr, hlo⟩ := hF
  obtain ⟨hP, hS, e0, e1, e2, hO⟩ := id hI
  dsimp only at hP hO
  obtain ⟨g1, g2⟩ : base ≤ a ∧ a < h.2.1 := by
    rcases u_pool_a hO ha with g | ⟨-, g, -⟩
    · exact g
    · exact absurd g (by decide)
  obtain ⟨k0, hk0⟩ := u_w_at (cA := cA) g1 g2
  rw [ha] at hk0
  exact va_castA (cA := cA 1) (x := (n0, .inl f)) hx hb hown (hts _ (u_tm (pl := 1355) rfl)) hP k0 hk0 (va_nm_int (hK.2 1 _ rfl).2) jd_c10 (k H locs cells slots ls hI hLR)
theorem we_min {x y : Int32} (hF : u_Fix D cA base b Ls xs p R s m args meth c "java/util/Arrays" prog_22_method_123_code 3) (hh : h.2.1 ≤ h0.2.1 + R.cells ∧ h.2.2 ≤ h0.2.2 + R.slots) (hr : (r.map fun v => v.category).sum + 13 ≤ R.locals) (k : u_WE D cA base b Ls xs p l e R s m args below meth c 3 Q h0 (28, L, .int (if y < x then y else x) :: r, h)) : u_WE D cA base b Ls xs p l e R s m args below meth c 3 Q h0 (25, L, .int y :: .int x :: r, h) := by
  intro H locs cells slots ls hI hLR
  obtain ⟨hx, hb, hml, hown, hts, hK, hX, hAO, hbb, hbs, hfr, hlo⟩ := hF
  obtain ⟨hP, hS, e0, e1, e2, hO⟩ := id hI
  dsimp only at e1 e2
  exact va_mmin hx hb (hml.trans hLR.2.1.symm) hown (hts _ (u_tm (pl := 1356) rfl)) (hts _ (u_tm (pl := 1043) rfl)) (hts _ (u_tm (pl := 270) rfl)) (hts _ (u_tm (pl := 1044) rfl)) hfr hr (by omega) (by omega) jd_c25 (k H locs cells slots ls hI hLR)
theorem met_305 {d' : Nat} {as : List Value} {res : UR} (hbb : b < base) (hs : sp_copy as h res) : u_Met D cA base b Ls xs l (d' + 1) (u_mt 305) as h res := by
  obtain ⟨a, n, n0, f, rfl, ha, hn, hN, hn0, rfl⟩ := hs
  obtain ⟨N, hN2, rfl⟩ : ∃ N, N < 1001 ∧ n = nI N := by
    rcases pk_ix n (n := 1001) (by decide) with z | z | z
    · exact absurd z hn
    · have h1 := Int32.le_iff_toInt_le.mp z
      rw [nI_toInt (by decide)] at h1
      have h2 : n.toInt.toNat ≤ 1000 := hN
      omega
    · exact z
  have eN : (nI N).toNatClampNeg = N := nI_clamp (by omega)
  rw [eN]
  obtain ⟨h', hh'⟩ : ∃ h', h' = u_new h (.inl (1, N, .inl (fun j => if j < n0 then f j else 0))) N := ⟨_, rfl⟩
  rw [← hh', um305_eq]
  have hm := mo_305
  rw [um305_eq] at hm
  refine Met.ofW (cc := prog_22_method_123_code) (maxL := 3) (ret := some (.array .int)) hm.1 rfl ?_
  intro p e s m args below meth c s₁ B hml hv2
  obtain ⟨rfl, hsz, hP, hK, hX, hAO, hb0, hO⟩ := hv2
  have hts := atoms_spec (ws := m_ws um305) B.pre
  have x1 : h'.2.1 = h.2.1 + 1 := by rw [hh']; rfl
  have x2 : h'.2.2 = h.2.2 + N := by rw [hh']; rfl
  obtain ⟨R, hR⟩ : ∃ R, R = u_rm (d' + 1) h h' := ⟨_, rfl⟩
  have R1 : R.cells = 1 := by rw [hR]; show h'.2.1 - h.2.1 = 1; omega
  have R2 : R.slots = N := by rw [hR]; show h'.2.2 - h.2.2 = N; omega
  have R3 : 60 ≤ R.locals := by rw [hR]; exact Nat.mul_le_mul (Nat.le_refl 60) (Nat.le_add_left 1 (d' + 1 + 7))
  have hF : u_Fix D cA base b Ls xs p R s m [.ref a, .int (nI N)].toArray meth c "java/util/Arrays" prog_22_method_123_code 3 := ⟨B.exec, B.bytes, hml, findClass_of_methodNamed B.named, fun w hw => hts w (List.mem_cons_of_mem _ hw), hK, hX, hAO, hbb, by rw [hsz]; exact hb0, by rw [hR]; exact Nat.succ_le_succ (Nat.zero_le _), R3⟩
  rw [lg_entry_eq]
  have hl := lv_entry [.ref a, .int (nI N)] (n := 3) (Nat.le_of_ble_eq_true rfl)
  generalize (lg_sl [Value.ref a, .int (nI N)] ++ List.replicate (3 - (lg_sl [Value.ref a, .int (nI N)]).length) Slot.unset).toArray = ls at hl ⊢
  have hin : false = true → meth.name = "<init>" := fun z => by cases z
  obtain ⟨g1, g2⟩ : base ≤ a ∧ a < h.2.1 := by
    rcases u_pool_a hO ha with g | ⟨-, g, -⟩
    · exact g
    · exact absurd g (by decide)
  have hret : ∀ pc L (h1 : UH), pc = 13 ∨ pc = 32 → h1.2 = h'.2 → (∀ a, h1.1 a = h'.1 a ∨ ∃ t n f g, h1.1 a = .inl (t, n, .inl f) ∧ h'.1 a = .inl (t, n, .inl g) ∧ ∀ j, j < n → f j = g j) → u_WE D cA base b Ls xs p l e R s m [.ref a, .int (nI N)].toArray below meth c 3 (MQ below (u_Qc D cA base b Ls xs (some (.ref h.2.1), h')) [.ref a, .int (nI N)].toArray s (h'.2.1 - h.2.1) (h'.2.2 - h.2.2) (fun q => base ≤ q)) h (pc, L, [.ref h.2.1], h1) := fun pc L h1 hpc hs1 he H locs cells slots ls hI hLR => by
    refine W_szle fun hz => ?_
    have hsz2 := u_size hF hI hz
    obtain ⟨hP2, hS2, z0, z1, z2, hO2⟩ := hI
    dsimp only at z1 z2 hsz2 hP2 hO2 ⊢
    rw [hs1] at z1 z2 hsz2
    refine W.widen (k := h'.2.1 - h.2.1) (n := h'.2.2 - h.2.2) (by omega) (by omega) ?_
    have hO3 : u_out base b Ls xs h' := by rw [hh']; exact u_out_new hO (by omega)
    have hq : ∀ t : State, t.heap = H → s.WarmedH t.vm → u_Qc D cA base b Ls xs (some (.ref h.2.1), h') [.ref a, .int (nI N)].toArray s (.returned (some (.ref h.2.1))) t := fun t hH _ => ⟨rfl, by rw [hH]; exact hsz2, by rw [hH]; exact u_P_eq hs1 he hP2, hO3, hS2.F hH⟩
    rcases hpc with rfl | rfl
    · exact W.aret B.exec B.bytes B.returns (Or.inr ⟨_, rfl⟩) (Or.inr ⟨_, rfl⟩) hq hS2.2.2 jd_c13
    · exact W.aret B.exec B.bytes B.returns (Or.inr ⟨_, rfl⟩) (Or.inr ⟨_, rfl⟩) hq hS2.2.2 jd_c32
  have hh : h.2.1 ≤ h.2.1 + R.cells ∧ h.2.2 ≤ h.2.2 + R.slots := ⟨Nat.le_add_right _ _, Nat.le_add_right _ _⟩
  have up0 : ∀ e : UE, (u_new h e N).1 h.2.1 = e := fun e => by show va_up h.1 h.2.1 e h.2.1 = e; unfold va_up; rw [if_pos rfl]
  have up1 : ∀ (e : UE) (k : Nat), k ≠ h.2.1 → (u_new h e N).1 k = h.1 k := fun e k hk => by show va_up h.1 h.2.1 e k = _; unfold va_up; rw [if_neg hk]
  have we0 : u_WE D cA base b Ls xs p l e R s m [.ref a, .int (nI N)].toArray below meth c 3 (MQ below (u_Qc D cA base b Ls xs (some (.ref h.2.1), h')) [.ref a, .int (nI N)].toArray s (h'.2.1 - h.2.1) (h'.2.2 - h.2.2) (fun q => base ≤ q)) h (0, u_ent 3 [.ref a, .int (nI N)], [], h) := by
    refine we_segs hF hin kc305 [(0, .iload_n 1, []), (1, .aload_n 0, [])] (by decide +kernel) (y := (2, [some (.ref a), some (.int (nI N)), none], [.ref a, .int (nI N)], h)) rfl hh ?_
    refine we_alen hF hh rfl ha (n0 := n0) (t := 0) rfl ?_
    refine we_ic_ne hF hin kc305 hh (t := 14) (o := 11) rfl (fun z => ?_) (fun z => ?_)
    · have e0 : N = n0 := (nI_eq (by omega) (by omega)).mp z
      subst e0
      refine we_segs hF hin kc305 [(6, .aload_n 0, [])] (by decide +kernel) (y := (7, [some (.ref a), some (.int (nI N)), none], [.ref a], h)) rfl hh ?_
      refine we_clone hF ha ⟨by omega, by omega⟩ ?_
      refine we_cast hF (up0 _) ?_
      refine hret 13 _ _ (Or.inl rfl) (by rw [hh']; rfl) (fun k => ?_)
      by_cases w : k = h.2.1
      · subst w
        rw [hh', up0, up0]
        exact Or.inr ⟨1, N, f, _, rfl, rfl, fun j hj => by rw [if_pos hj]⟩
      · rw [hh', up1 _ _ w, up1 _ _ w]; exact Or.inl rfl
    · refine we_segs hF hin kc305 [(14, .iload_n 1, [])] (by decide +kernel) (y := (15, [some (.ref a), some (.int (nI N)), none], [.int (nI N)], h)) rfl hh ?_
      obtain ⟨h1, hh1⟩ : ∃ h1, h1 = u_new h (.inl (1, N, .inl (fun _ => 0))) N := ⟨_, rfl⟩
      have b1 : h1.2.1 = h.2.1 + 1 := by rw [hh1]; rfl
      have b2 : h1.2.2 = h.2.2 + N := by rw [hh1]; rfl
      have hb1 : h1.2.1 ≤ h.2.1 + R.cells ∧ h1.2.2 ≤ h.2.2 + R.slots := ⟨by omega, by omega⟩
      refine we_step hF hin kc305 (i := (.newarray .int, [1])) (y := (17, [some (.ref a), some (.int (nI N)), none], [.ref h.2.1], h1)) rfl ?_ hb1 ?_
      · show (if nI N < 0 ∨ ¬ (nI N).toNatClampNeg ≤ 1000000 then none else match u_zero 1 (nI N).toNatClampNeg with | some e => some (.inl (15 + 2, _, .ref h.2.1 :: [], u_new h e (nI N).toNatClampNeg)) | none => none : UO) = _
        rw [if_neg (fun z => z.elim hn (fun y => y (by rw [eN]; omega))), eN, hh1]
        rfl
      obtain ⟨L2, hL2⟩ : ∃ L2 : List (Option Value), L2 = [some (.ref a), some (.int (nI N)), some (.ref h.2.1)] := ⟨_, rfl⟩
      refine we_segs hF hin kc305 [(17, .astore_n 2, []), (18, .aload_n 0, []), (19, .iconst 0, []), (20, .aload_n 2, []), (21, .iconst 0, []), (22, .aload_n 0, [])] (by decide +kernel) (y := (23, L2, [.ref a, .int 0, .ref h.2.1, .int 0, .ref a], h1)) (by rw [hL2]; rfl) hb1 ?_
      have h1a : h1.1 a = .inl (1, n0, .inl f) := by rw [hh1, up1 _ _ (by omega)]; exact ha
      have h1n : h1.1 h.2.1 = .inl (1, N, .inl (fun _ => 0)) := by rw [hh1, up0]
      refine we_alen hF hb1 rfl h1a (n0 := n0) (t := 0) rfl ?_
      refine we_segs hF hin kc305 [(24, .iload_n 1, [])] (by decide +kernel) (y := (25, L2, [.int (nI N), .int (nI n0), .int 0, .ref h.2.1, .int 0, .ref a], h1)) (by rw [hL2]; rfl) hb1 ?_
      refine we_min hF hb1 (by show 4 + 13 ≤ R.locals; omega) ?_
      obtain ⟨mn, hmn, hz⟩ : ∃ mn, (mn = if N < n0 then N else n0) ∧ (if nI N < nI n0 then nI N else nI n0) = nI mn := by
        by_cases w : N < n0
        · exact ⟨N, by rw [if_pos w], by rw [if_pos ((nI_ltI (by omega) (by omega)).mpr w)]⟩
        · exact ⟨n0, by rw [if_neg w], by rw [if_neg (fun y => w ((nI_ltI (by omega) (by omega)).mp y))]⟩
      have m1 : mn ≤ n0 := by rw [hmn]; split <;> omega
      have m2 : mn ≤ N := by rw [hmn]; split <;> omega
      rw [hz]
      obtain ⟨h2, hh2⟩ : ∃ h2 : UH, h2 = (va_up h1.1 h.2.1 (.inl (1, N, .inl (va_cpy f (fun _ => 0) 0 0 mn))), h1.2.1, h1.2.2) := ⟨_, rfl⟩
      have c0 : ((0 : Int32)).toNatClampNeg = 0 := by decide
      refine we_step hF hin kc305 (i := (.invokestatic 150, [])) (y := (31, L2, [], h2)) rfl ?_ (by rw [hh2]; exact hb1) ?_
      · show (match (if ([] : List Value).length ≤ 8 then u_cpy h1 a h.2.1 0 0 (nI mn) else none) with | some e => some (.inl (28 + 3, L2, [], (va_up h1.1 h.2.1 e, h1.2.1, h1.2.2))) | none => none : UO) = _
        have : u_cpy h1 a h.2.1 0 0 (nI mn) = some (.inl (1, N, .inl (va_cpy f (fun _ => 0) 0 0 mn))) := by
          unfold u_cpy
          rw [h1a, h1n]
          show (if (0 : Int32) < 0 ∨ (0 : Int32) < 0 ∨ nI mn < 0 ∨ ¬ ((0 : Int32).toNatClampNeg + (nI mn).toNatClampNeg ≤ n0) ∨ ¬ ((0 : Int32).toNatClampNeg + (nI mn).toNatClampNeg ≤ N) then none else some (.inl (1, N, .inl (va_cpy f (fun _ => 0) (0 : Int32).toNatClampNeg (0 : Int32).toNatClampNeg (nI mn).toNatClampNeg))) : Option UE) = _
          rw [nI_clamp (by omega), c0, if_neg]
          rintro (y | y | y | y | y)
          · exact absurd y (by decide)
          · exact absurd y (by decide)
          · exact absurd y (nI_pos (by omega))
          · omega
          · omega
        rw [if_pos (by decide), this, hh2]
      refine we_segs hF hin kc305 [(31, .aload_n 2, [])] (by decide +kernel) (y := (32, L2, [.ref h.2.1], h2)) (by rw [hL2]; rfl) (by rw [hh2]; exact hb1) ?_
      refine hret 32 _ _ (Or.inr rfl) (by rw [hh2, hh', hh1]; rfl) (fun k => ?_)
      by_cases w : k = h.2.1
      · subst w
        rw [hh', up0, hh2]
        refine Or.inr ⟨1, N, _, _, by show va_up h1.1 h.2.1 _ h.2.1 = _; unfold va_up; rw [if_pos rfl], rfl, fun j hj => ?_⟩
        unfold va_cpy
        by_cases y : j < mn
        · rw [if_pos ⟨Nat.zero_le _, by omega⟩, if_pos (by omega)]
          exact congrArg f (by omega)
        · rw [if_neg (fun z => by omega), if_neg]
          rw [hmn] at y
          split at y <;> omega
      · rw [hh', up1 _ _ w, hh2]
        refine Or.inl ?_
        show va_up h1.1 h.2.1 _ k = _
        unfold va_up
        rw [if_neg w, hh1, up1 _ _ w]
  rw [← hR]
  exact we0 s.heap [] 0 0 ls ⟨hP, va_S.rf, hsz, rfl, rfl, hO⟩ (u_ent_LR (Nat.le_of_ble_eq_true rfl) hl)
end Copy
