/-! ===== one step of the small machine, by the machine: arrays, what is new ===== -/
section Sim3
variable {D : va_G} {cA : Nat → ClassId} {base b Ls : Nat} {xs : Nat → Int32} {p : Program} {l : Launch} {e : Env} {R : Room} {s : State} {m : MethodId} {args : Array Value} {below : List Frame} {meth : Method} {c : Code} {own : String} {bytes : ByteArray} {nL : Nat} {rt : Option FieldType} {init : Bool} {Q : State → Prop}
variable {h0 h : UH} {H : Heap} {locs : List Loc} {cells slots : Nat} {pc pl : Nat} {L : List (Option Value)} {ls : Array Slot} {st : List Value} {y : UC} {rs : List Nat}

theorem u_acB : Cond.arrayClass .byte ∈ lw_T := u_tm (pl := 336) (by decide +kernel)
theorem u_acI : Cond.arrayClass .int ∈ lw_T := u_tm (pl := 337) (by decide +kernel)
theorem u_acJ : Cond.arrayClass .long ∈ lw_T := u_tm (pl := 771) (by decide +kernel)
theorem u_acZ : Cond.arrayClass .boolean ∈ lw_T := u_tm (pl := 2282) (by decide +kernel)
theorem u_oi : Cond.instanceMethod objectInit ∈ lw_T := u_tm (pl := 284) (by decide +kernel)
theorem u_oc : Cond.code objectInit ⟨#[0xb1]⟩ 1 none ∈ lw_T := u_tm (pl := 285) (by decide +kernel)
theorem u_acn : Cond.native arraycopyName ∈ lw_T := u_tm (pl := 1243) (by decide +kernel)
theorem u_acs : Cond.static arraycopyName ∈ lw_T := u_tm (pl := 1242) (by decide +kernel)
theorem u_aci : Cond.initialized "java/lang/System" ∈ lw_T := u_tm (pl := 275) (by decide +kernel)
theorem u_ins0 : Cond.instantiable RX0 12 ∈ lw_T := u_tm (pl := 844) (by decide +kernel)
theorem u_ini0 : Cond.initialized RX0 ∈ lw_T := u_tm (pl := 267) (by decide +kernel)
theorem u_ins1 : Cond.instantiable RX1 13 ∈ lw_T := u_tm (pl := 397) (by decide +kernel)
theorem u_ini1 : Cond.initialized RX1 ∈ lw_T := u_tm (pl := 262) (by decide +kernel)
theorem u_ins2 : Cond.instantiable RX2 2 ∈ lw_T := u_tm (pl := 339) (by decide +kernel)
theorem u_ini2 : Cond.initialized RX2 ∈ lw_T := u_tm (pl := 259) (by decide +kernel)
theorem u_ins3 : Cond.instantiable RX3 8 ∈ lw_T := u_tm (pl := 287) (by decide +kernel)
theorem u_ini3 : Cond.initialized RX3 ∈ lw_T := u_tm (pl := 258) (by decide +kernel)
theorem u_ins4 : Cond.instantiable RX4 4 ∈ lw_T := u_tm (pl := 1345) (by decide +kernel)
theorem u_ini4 : Cond.initialized RX4 ∈ lw_T := u_tm (pl := 276) (by decide +kernel)
theorem u_ins5 : Cond.instantiable RX5 6 ∈ lw_T := u_tm (pl := 352) (by decide +kernel)
theorem u_ini5 : Cond.initialized RX5 ∈ lw_T := u_tm (pl := 260) (by decide +kernel)
theorem u_ins6 : Cond.instantiable RX6 16 ∈ lw_T := u_tm (pl := 654) (by decide +kernel)
theorem u_ini6 : Cond.initialized RX6 ∈ lw_T := u_tm (pl := 265) (by decide +kernel)
theorem u_ins7 : Cond.instantiable RX7 13 ∈ lw_T := u_tm (pl := 773) (by decide +kernel)
theorem u_ini7 : Cond.initialized RX7 ∈ lw_T := u_tm (pl := 266) (by decide +kernel)
theorem u_ins8 : Cond.instantiable RX8 14 ∈ lw_T := u_tm (pl := 520) (by decide +kernel)
theorem u_ini8 : Cond.initialized RX8 ∈ lw_T := u_tm (pl := 264) (by decide +kernel)
theorem u_ins9 : Cond.instantiable RX9 9 ∈ lw_T := u_tm (pl := 905) (by decide +kernel)
theorem u_ini9 : Cond.initialized RX9 ∈ lw_T := u_tm (pl := 268) (by decide +kernel)
theorem u_ins10 : Cond.instantiable RX10 9 ∈ lw_T := u_tm (pl := 395) (by decide +kernel)
theorem u_ini10 : Cond.initialized RX10 ∈ lw_T := u_tm (pl := 261) (by decide +kernel)
theorem u_ins11 : Cond.instantiable RX11 15 ∈ lw_T := u_tm (pl := 279) (by decide +kernel)
theorem u_ini11 : Cond.initialized RX11 ∈ lw_T := u_tm (pl := 257) (by decide +kernel)
theorem u_ins12 : Cond.instantiable RX12 52 ∈ lw_T := u_tm (pl := 2071) (by decide +kernel)
theorem u_ini12 : Cond.initialized RX12 ∈ lw_T := u_tm (pl := 269) (by decide +kernel)
theorem u_ins : ∀ (ci : Nat) (q : vw_C), vwCl[ci]? = some q → Cond.instantiable q.1 q.2.2 ∈ lw_T := by
  intro ci q h
  match ci, h with
  | 0, h => cases h; exact u_ins0
  | 1, h => cases h; exact u_ins1
  | 2, h => cases h; exact u_ins2
  | 3, h => cases h; exact u_ins3
  | 4, h => cases h; exact u_ins4
  | 5, h => cases h; exact u_ins5
  | 6, h => cases h; exact u_ins6
  | 7, h => cases h; exact u_ins7
  | 8, h => cases h; exact u_ins8
  | 9, h => cases h; exact u_ins9
  | 10, h => cases h; exact u_ins10
  | 11, h => cases h; exact u_ins11
  | 12, h => cases h; exact u_ins12
  | n + 13, h => simp at h
theorem u_ini : ∀ (ci : Nat) (q : vw_C), vwCl[ci]? = some q → Cond.initialized q.1 ∈ lw_T := by
  intro ci q h
  match ci, h with
  | 0, h => cases h; exact u_ini0
  | 1, h => cases h; exact u_ini1
  | 2, h => cases h; exact u_ini2
  | 3, h => cases h; exact u_ini3
  | 4, h => cases h; exact u_ini4
  | 5, h => cases h; exact u_ini5
  | 6, h => cases h; exact u_ini6
  | 7, h => cases h; exact u_ini7
  | 8, h => cases h; exact u_ini8
  | 9, h => cases h; exact u_ini9
  | 10, h => cases h; exact u_ini10
  | 11, h => cases h; exact u_ini11
  | 12, h => cases h; exact u_ini12
  | n + 13, h => simp at h
theorem u_cat2 (v : Value) : v.category ≤ 2 := by cases v <;> simp [Value.category]
theorem u_cats : ∀ {n : Nat} {r : List Value}, r.length ≤ n → (r.map fun v => v.category).sum ≤ 2 * n
  | n, [], _ => by simp
  | 0, v :: r, h => by simp at h
  | n + 1, v :: r, h => by
    have h1 := u_cat2 v
    have h2 : r.length ≤ n := by simpa using h
    have h3 := u_cats h2
    simp only [List.map_cons, List.sum_cons]
    omega

theorem u_vin {i : Int32} {n : Nat} (h : ¬ (i < 0 ∨ n ≤ i.toNatClampNeg)) : vp_in i n := h
theorem u_tyA {D : va_G} {cA : Nat → ClassId} {U : State} (_ : va_K D vwCl (u_tys cA) U) : (u_tys cA)[0]? = some (cA 0, FieldType.byte) ∧ (u_tys cA)[1]? = some (cA 1, FieldType.int) ∧ (u_tys cA)[2]? = some (cA 2, FieldType.long) ∧ (u_tys cA)[3]? = some (cA 3, FieldType.boolean) ∧ (u_tys cA)[7]? = some (cA 9, FieldType.int) := ⟨rfl, rfl, rfl, rfl, rfl⟩

theorem us_iaload (hF : u_Fix D cA base b Ls xs p R s m args meth c own bytes nL) (hI : u_Inv D cA base b Ls xs s h0 H locs cells slots h) (hok : u_ok own bytes rt init pc (.iaload, rs) pl = true) (hst : ustep (.iaload, rs) (pc, L, st, h) = some (.inl y)) (K : W p l e R s m args below meth c H locs cells slots Q (F0 m y.1 ls y.2.2.1)) : W p l e R s m args below meth c H locs cells slots Q (F0 m pc ls st) ∧ y.2.1 = L ∧ y.2.2.2 = h := by
  obtain ⟨hx, hb, hml, hown, hts, hK, hX, hAO, hbb, hbs, hfr, hlo⟩ := hF
  obtain ⟨hP, hS, e0, e1, e2, hO⟩ := hI
  have hd := u_okd hok rfl
  replace hst : u_al 1 pc L st h = some (.inl y) := hst
  unfold u_al at hst
  split at hst
  · rename_i i a r
    split at hst
    · rename_i v ev
      cases hst
      refine ⟨?_, rfl, rfl⟩
      unfold u_ald at ev
      split at ev
      · rename_i t n f he
        split at ev
        · cases ev
        · rename_i hn
          simp only [] at ev
          split at ev
          · rename_i ht
            cases ev
            rcases u_pool_a hO he with ⟨g1, g2⟩ | ⟨g1, g2, g3⟩
            · obtain ⟨k0, hk⟩ := u_w_at (cA := cA) g1 g2
              rw [he] at hk
              rcases ht with rfl | rfl
              · exact va_iald hx hb hK hP k0 1 hk rfl hn hd K
              · exact va_iald hx hb hK hP k0 7 hk rfl hn hd K
            · subst g1
              cases g3
              exact va_sld hx hb hX.1 (by omega) (by omega) hS hn hd K
          · cases ev
      · split at ev
        · cases ev
        · simp at ev
      · split at ev
        · cases ev
        · simp at ev
      · cases ev
    · cases hst
  · cases hst

theorem us_laload (hF : u_Fix D cA base b Ls xs p R s m args meth c own bytes nL) (hI : u_Inv D cA base b Ls xs s h0 H locs cells slots h) (hok : u_ok own bytes rt init pc (.laload, rs) pl = true) (hst : ustep (.laload, rs) (pc, L, st, h) = some (.inl y)) (K : W p l e R s m args below meth c H locs cells slots Q (F0 m y.1 ls y.2.2.1)) : W p l e R s m args below meth c H locs cells slots Q (F0 m pc ls st) ∧ y.2.1 = L ∧ y.2.2.2 = h := by
  obtain ⟨hx, hb, hml, hown, hts, hK, hX, hAO, hbb, hbs, hfr, hlo⟩ := hF
  obtain ⟨hP, hS, e0, e1, e2, hO⟩ := hI
  have hd := u_okd hok rfl
  replace hst : u_al 2 pc L st h = some (.inl y) := hst
  unfold u_al at hst
  split at hst
  · rename_i i a r
    split at hst
    · rename_i v ev
      cases hst
      refine ⟨?_, rfl, rfl⟩
      unfold u_ald at ev
      split at ev
      · split at ev
        · cases ev
        · simp at ev
      · rename_i t n f he
        split at ev
        · cases ev
        · rename_i hn
          split at ev
          · rename_i ht
            obtain ⟨-, rfl⟩ := ht
            cases ev
            rcases u_pool_a hO he with ⟨g1, g2⟩ | ⟨g1, g2, g3⟩
            · obtain ⟨k0, hk⟩ := u_w_at (cA := cA) g1 g2
              rw [he] at hk
              exact va_lald hx hb hK hP k0 2 hk rfl hn hd K
            · cases g2
          · cases ev
      · split at ev
        · cases ev
        · simp at ev
      · cases ev
    · cases hst
  · cases hst

theorem us_baload (hF : u_Fix D cA base b Ls xs p R s m args meth c own bytes nL) (hI : u_Inv D cA base b Ls xs s h0 H locs cells slots h) (hok : u_ok own bytes rt init pc (.baload, rs) pl = true) (hst : ustep (.baload, rs) (pc, L, st, h) = some (.inl y)) (K : W p l e R s m args below meth c H locs cells slots Q (F0 m y.1 ls y.2.2.1)) : W p l e R s m args below meth c H locs cells slots Q (F0 m pc ls st) ∧ y.2.1 = L ∧ y.2.2.2 = h := by
  obtain ⟨hx, hb, hml, hown, hts, hK, hX, hAO, hbb, hbs, hfr, hlo⟩ := hF
  obtain ⟨hP, hS, e0, e1, e2, hO⟩ := hI
  have hd := u_okd hok rfl
  replace hst : u_al 0 pc L st h = some (.inl y) := hst
  unfold u_al at hst
  split at hst
  · rename_i i a r
    split at hst
    · rename_i v ev
      cases hst
      refine ⟨?_, rfl, rfl⟩
      unfold u_ald at ev
      split at ev
      · rename_i t n f he
        split at ev
        · cases ev
        · rename_i hn
          simp only [] at ev
          split at ev
          · rename_i ht
            cases ev
            rcases u_pool_a hO he with ⟨g1, g2⟩ | ⟨g1, g2, g3⟩
            · obtain ⟨k0, hk⟩ := u_w_at (cA := cA) g1 g2
              rw [he] at hk
              rcases ht with rfl | rfl
              · exact va_bald hx hb hK hP k0 0 hk rfl hn hd K
              · exact va_zald hx hb hK hP k0 3 hk rfl hn hd K
            · omega
          · cases ev
      · split at ev
        · cases ev
        · simp at ev
      · split at ev
        · cases ev
        · simp at ev
      · cases ev
    · cases hst
  · cases hst

theorem us_aaload (hF : u_Fix D cA base b Ls xs p R s m args meth c own bytes nL) (hI : u_Inv D cA base b Ls xs s h0 H locs cells slots h) (hok : u_ok own bytes rt init pc (.aaload, rs) pl = true) (hst : ustep (.aaload, rs) (pc, L, st, h) = some (.inl y)) (K : W p l e R s m args below meth c H locs cells slots Q (F0 m y.1 ls y.2.2.1)) : W p l e R s m args below meth c H locs cells slots Q (F0 m pc ls st) ∧ y.2.1 = L ∧ y.2.2.2 = h := by
  obtain ⟨hx, hb, hml, hown, hts, hK, hX, hAO, hbb, hbs, hfr, hlo⟩ := hF
  obtain ⟨hP, hS, e0, e1, e2, hO⟩ := hI
  have hd := u_okd hok rfl
  replace hst : u_al 4 pc L st h = some (.inl y) := hst
  unfold u_al at hst
  split at hst
  · rename_i i a r
    split at hst
    · rename_i v ev
      cases hst
      refine ⟨?_, rfl, rfl⟩
      unfold u_ald at ev
      split at ev
      · split at ev
        · cases ev
        · simp at ev
      · split at ev
        · cases ev
        · simp at ev
      · rename_i t n f he
        split at ev
        · cases ev
        · rename_i hn
          split at ev
          · rename_i ht
            obtain ⟨-, ht⟩ := ht
            cases ev
            rcases u_pool_a hO he with ⟨g1, g2⟩ | ⟨g1, g2, g3⟩
            · obtain ⟨k0, hk⟩ := u_w_at (cA := cA) g1 g2
              rw [he] at hk
              rcases ht with rfl | rfl | rfl
              · exact va_aldq hx hb hK hP k0 4 hk rfl hn hd K
              · exact va_aldq hx hb hK hP k0 5 hk rfl hn hd K
              · exact va_aldq hx hb hK hP k0 6 hk rfl hn hd K
            · omega
          · cases ev
      · cases ev
    · cases hst
  · cases hst

theorem us_arraylength (hF : u_Fix D cA base b Ls xs p R s m args meth c own bytes nL) (hI : u_Inv D cA base b Ls xs s h0 H locs cells slots h) (hok : u_ok own bytes rt init pc (.arraylength, rs) pl = true) (hst : ustep (.arraylength, rs) (pc, L, st, h) = some (.inl y)) (K : W p l e R s m args below meth c H locs cells slots Q (F0 m y.1 ls y.2.2.1)) : W p l e R s m args below meth c H locs cells slots Q (F0 m pc ls st) ∧ y.2.1 = L ∧ y.2.2.2 = h := by
  obtain ⟨hx, hb, hml, hown, hts, hK, hX, hAO, hbb, hbs, hfr, hlo⟩ := hF
  obtain ⟨hP, hS, e0, e1, e2, hO⟩ := hI
  have hd := u_okd hok rfl
  replace hst : v_arraylength rs pc L st h = some (.inl y) := hst
  unfold v_arraylength at hst
  split at hst
  · rename_i a r
    split at hst
    · rename_i n ev
      cases hst
      refine ⟨?_, rfl, rfl⟩
      unfold u_len at ev
      split at ev
      · rename_i t n' x' he
        have h7 : t < 7 ∨ t = 9 := by
          rcases Classical.em (t < 7 ∨ t = 9) with q | q
          · exact q
          · rw [if_neg q] at ev; cases ev
        rw [if_pos h7] at ev
        cases ev
        rcases u_pool_a hO he with ⟨g1, g2⟩ | ⟨g1, g2, g3⟩
        · obtain ⟨k0, hk⟩ := u_w_at (cA := cA) g1 g2
          rw [he] at hk
          rcases (show t = 0 ∨ t = 1 ∨ t = 2 ∨ t = 3 ∨ t = 4 ∨ t = 5 ∨ t = 6 ∨ t = 9 by omega) with rfl | rfl | rfl | rfl | rfl | rfl | rfl | rfl
          · exact va_alen hx hb hK hP k0 0 hk rfl rfl hd K
          · exact va_alen hx hb hK hP k0 1 hk rfl rfl hd K
          · exact va_alen hx hb hK hP k0 2 hk rfl rfl hd K
          · exact va_alen hx hb hK hP k0 3 hk rfl rfl hd K
          · exact va_alen hx hb hK hP k0 4 hk rfl rfl hd K
          · exact va_alen hx hb hK hP k0 5 hk rfl rfl hd K
          · exact va_alen hx hb hK hP k0 6 hk rfl rfl hd K
          · exact va_alen hx hb hK hP k0 7 hk rfl rfl hd K
        · subst g1
          cases g3
          exact va_slen hx hb hX.1 (by omega) (by omega) hS hd K
      · cases ev
    · cases hst
  · cases hst

theorem us_iastore (hF : u_Fix D cA base b Ls xs p R s m args meth c own bytes nL) (hI : u_Inv D cA base b Ls xs s h0 H locs cells slots h) (hok : u_ok own bytes rt init pc (.iastore, rs) pl = true) (hst : ustep (.iastore, rs) (pc, L, st, h) = some (.inl y)) (K : ∀ (H' : Heap) (locs' : List Loc), u_Inv D cA base b Ls xs s h0 H' locs' cells slots y.2.2.2 → W p l e R s m args below meth c H' locs' cells slots Q (F0 m y.1 ls y.2.2.1)) : W p l e R s m args below meth c H locs cells slots Q (F0 m pc ls st) ∧ y.2.1 = L := by
  obtain ⟨hx, hb, hml, hown, hts, hK, hX, hAO, hbb, hbs, hfr, hlo⟩ := hF
  obtain ⟨hP, hS, e0, e1, e2, hO⟩ := hI
  have hd := u_okd hok rfl
  replace hst : u_as 1 pc L st h = some (.inl y) := hst
  unfold u_as at hst
  split at hst
  · rename_i v i a r
    split at hst
    · rename_i e' ev
      cases hst
      refine ⟨?_, rfl⟩
      unfold u_ast at ev
      split at ev
      · rename_i t n f x he
        split at ev
        · cases ev
        · rename_i hn
          simp only [] at ev
          split at ev
          · rename_i ht
            subst ht
            cases ev
            obtain ⟨g1, g2⟩ := (u_pool_a hO he).resolve_right (fun z => absurd z.2.1 (by decide))
            obtain ⟨k0, hk⟩ := u_w_at (cA := cA) g1 g2
            have hk2 := hk
            rw [he] at hk
            exact va_iast hx hb hK hP (u_w_D base cA h) hS k0 1 hk rfl hn hd (fun H1 locs1 q1 _ q3 => K H1 locs1 ⟨by rw [← u_w_set (e := .inl (1, n, .inl (upd f i.toNatClampNeg x))) hk2]; exact q1, q3, e0, e1, e2, u_out_up hO ⟨g1, g2⟩⟩)
          · cases ev
      · split at ev
        · cases ev
        · simp at ev
      · split at ev
        · cases ev
        · simp at ev
      · cases ev
    · cases hst
  · cases hst

theorem us_lastore (hF : u_Fix D cA base b Ls xs p R s m args meth c own bytes nL) (hI : u_Inv D cA base b Ls xs s h0 H locs cells slots h) (hok : u_ok own bytes rt init pc (.lastore, rs) pl = true) (hst : ustep (.lastore, rs) (pc, L, st, h) = some (.inl y)) (K : ∀ (H' : Heap) (locs' : List Loc), u_Inv D cA base b Ls xs s h0 H' locs' cells slots y.2.2.2 → W p l e R s m args below meth c H' locs' cells slots Q (F0 m y.1 ls y.2.2.1)) : W p l e R s m args below meth c H locs cells slots Q (F0 m pc ls st) ∧ y.2.1 = L := by
  obtain ⟨hx, hb, hml, hown, hts, hK, hX, hAO, hbb, hbs, hfr, hlo⟩ := hF
  obtain ⟨hP, hS, e0, e1, e2, hO⟩ := hI
  have hd := u_okd hok rfl
  replace hst : u_as 2 pc L st h = some (.inl y) := hst
  unfold u_as at hst
  split at hst
  · rename_i v i a r
    split at hst
    · rename_i e' ev
      cases hst
      refine ⟨?_, rfl⟩
      unfold u_ast at ev
      split at ev
      · split at ev
        · cases ev
        · simp at ev
      · rename_i t n f x he
        split at ev
        · cases ev
        · rename_i hn
          split at ev
          · rename_i ht
            obtain ⟨-, rfl⟩ := ht
            cases ev
            obtain ⟨g1, g2⟩ := (u_pool_a hO he).resolve_right (fun z => absurd z.2.1 (by decide))
            obtain ⟨k0, hk⟩ := u_w_at (cA := cA) g1 g2
            have hk2 := hk
            rw [he] at hk
            exact va_last hx hb hK hP (u_w_D base cA h) hS k0 2 hk rfl hn hd (fun H1 locs1 q1 _ q3 => K H1 locs1 ⟨by rw [← u_w_set (e := .inl (2, n, .inr (.inl (vp_updL f i.toNatClampNeg x)))) hk2]; exact q1, q3, e0, e1, e2, u_out_up hO ⟨g1, g2⟩⟩)
          · cases ev
      · split at ev
        · cases ev
        · simp at ev
      · cases ev
    · cases hst
  · cases hst

theorem us_bastore (hF : u_Fix D cA base b Ls xs p R s m args meth c own bytes nL) (hI : u_Inv D cA base b Ls xs s h0 H locs cells slots h) (hok : u_ok own bytes rt init pc (.bastore, rs) pl = true) (hst : ustep (.bastore, rs) (pc, L, st, h) = some (.inl y)) (K : ∀ (H' : Heap) (locs' : List Loc), u_Inv D cA base b Ls xs s h0 H' locs' cells slots y.2.2.2 → W p l e R s m args below meth c H' locs' cells slots Q (F0 m y.1 ls y.2.2.1)) : W p l e R s m args below meth c H locs cells slots Q (F0 m pc ls st) ∧ y.2.1 = L := by
  obtain ⟨hx, hb, hml, hown, hts, hK, hX, hAO, hbb, hbs, hfr, hlo⟩ := hF
  obtain ⟨hP, hS, e0, e1, e2, hO⟩ := hI
  have hd := u_okd hok rfl
  replace hst : u_as 0 pc L st h = some (.inl y) := hst
  unfold u_as at hst
  split at hst
  · rename_i v i a r
    split at hst
    · rename_i e' ev
      cases hst
      refine ⟨?_, rfl⟩
      unfold u_ast at ev
      split at ev
      · rename_i t n f x he
        split at ev
        · cases ev
        · rename_i hn
          simp only [] at ev
          split at ev
          · rename_i ht
            subst ht
            cases ev
            obtain ⟨g1, g2⟩ := (u_pool_a hO he).resolve_right (fun z => absurd z.2.1 (by decide))
            obtain ⟨k0, hk⟩ := u_w_at (cA := cA) g1 g2
            have hk2 := hk
            rw [he] at hk
            exact va_bast hx hb hK hP (u_w_D base cA h) hS k0 0 hk rfl hn hd (fun H1 locs1 q1 _ q3 => K H1 locs1 ⟨by rw [← u_w_set (e := .inl (0, n, .inl (upd f i.toNatClampNeg (vp_nar .byte x)))) hk2]; exact q1, q3, e0, e1, e2, u_out_up hO ⟨g1, g2⟩⟩)
          · split at ev
            · rename_i ht
              subst ht
              cases ev
              obtain ⟨g1, g2⟩ := (u_pool_a hO he).resolve_right (fun z => absurd z.2.1 (by decide))
              obtain ⟨k0, hk⟩ := u_w_at (cA := cA) g1 g2
              have hk2 := hk
              rw [he] at hk
              exact va_zast hx hb hK hP (u_w_D base cA h) hS k0 3 hk rfl hn hd (fun H1 locs1 q1 _ q3 => K H1 locs1 ⟨by rw [← u_w_set (e := .inl (3, n, .inl (upd f i.toNatClampNeg (vp_nar .boolean x)))) hk2]; exact q1, q3, e0, e1, e2, u_out_up hO ⟨g1, g2⟩⟩)
            · cases ev
      · split at ev
        · cases ev
        · simp at ev
      · split at ev
        · cases ev
        · simp at ev
      · cases ev
    · cases hst
  · cases hst

theorem us_aastore (hF : u_Fix D cA base b Ls xs p R s m args meth c own bytes nL) (hI : u_Inv D cA base b Ls xs s h0 H locs cells slots h) (hok : u_ok own bytes rt init pc (.aastore, rs) pl = true) (hst : ustep (.aastore, rs) (pc, L, st, h) = some (.inl y)) (K : ∀ (H' : Heap) (locs' : List Loc), u_Inv D cA base b Ls xs s h0 H' locs' cells slots y.2.2.2 → W p l e R s m args below meth c H' locs' cells slots Q (F0 m y.1 ls y.2.2.1)) : W p l e R s m args below meth c H locs cells slots Q (F0 m pc ls st) ∧ y.2.1 = L := by
  obtain ⟨hx, hb, hml, hown, hts, hK, hX, hAO, hbb, hbs, hfr, hlo⟩ := hF
  obtain ⟨hP, hS, e0, e1, e2, hO⟩ := hI
  have hd := u_okd hok rfl
  replace hst : u_as 4 pc L st h = some (.inl y) := hst
  unfold u_as at hst
  split at hst
  · rename_i v i a r
    split at hst
    · rename_i e' ev
      cases hst
      refine ⟨?_, rfl⟩
      unfold u_ast at ev
      split at ev
      · split at ev
        · cases ev
        · simp at ev
      · split at ev
        · cases ev
        · simp at ev
      · rename_i t n f w he
        split at ev
        · cases ev
        · rename_i hn
          split at ev
          · rename_i ht
            obtain ⟨-, ht, hcl⟩ := ht
            cases ev
            obtain ⟨g1, g2⟩ := (u_pool_a hO he).resolve_right (fun z => by omega)
            obtain ⟨k0, hk⟩ := u_w_at (cA := cA) g1 g2
            have hk2 := hk
            rw [he] at hk
            unfold u_cls at hcl
            split at hcl
            · rename_i c' fs he2
              obtain ⟨g3, g4⟩ := u_pool_o hO he2 (by rw [hcl]; unfold u_ocl; rcases ht with rfl | rfl | rfl <;> decide)
              obtain ⟨k1, hk1⟩ := u_w_at (cA := cA) g3 g4
              rw [he2] at hk1
              rcases ht with rfl | rfl | rfl
              · have hc' : c' = 4 := hcl
                subst hc'
                exact va_astq hx hb hK hP (u_w_D base cA h) hS k0 4 k1 4 (r := (RX4, TX4, 4)) hk rfl hk1 rfl hn hd (fun H1 locs1 q1 _ q3 => K H1 locs1 ⟨by rw [← u_w_set (e := .inl (4, n, .inr (.inr (.inr (.inr (va_up f i.toNatClampNeg (some w))))))) hk2]; exact q1, q3, e0, e1, e2, u_out_up hO ⟨g1, g2⟩⟩)
              · have hc' : c' = 8 := hcl
                subst hc'
                exact va_astq hx hb hK hP (u_w_D base cA h) hS k0 5 k1 8 (r := (RX8, TX8, 14)) hk rfl hk1 rfl hn hd (fun H1 locs1 q1 _ q3 => K H1 locs1 ⟨by rw [← u_w_set (e := .inl (5, n, .inr (.inr (.inr (.inr (va_up f i.toNatClampNeg (some w))))))) hk2]; exact q1, q3, e0, e1, e2, u_out_up hO ⟨g1, g2⟩⟩)
              · have hc' : c' = 10 := hcl
                subst hc'
                exact va_astq hx hb hK hP (u_w_D base cA h) hS k0 6 k1 10 (r := (RX10, TX10, 9)) hk rfl hk1 rfl hn hd (fun H1 locs1 q1 _ q3 => K H1 locs1 ⟨by rw [← u_w_set (e := .inl (6, n, .inr (.inr (.inr (.inr (va_up f i.toNatClampNeg (some w))))))) hk2]; exact q1, q3, e0, e1, e2, u_out_up hO ⟨g1, g2⟩⟩)
            · exfalso
              unfold u_ocl at hcl
              rcases ht with rfl | rfl | rfl <;> simp at hcl
          · cases ev
      · cases ev
    · cases hst
  · cases hst

theorem us_new {x : Nat} (hF : u_Fix D cA base b Ls xs p R s m args meth c own bytes nL) (hI : u_Inv D cA base b Ls xs s h0 H locs cells slots h) (hok : u_ok own bytes rt init pc (.new x, rs) pl = true) (hst : ustep (.new x, rs) (pc, L, st, h) = some (.inl y)) (hrm : y.2.2.2.2.1 ≤ h0.2.1 + R.cells ∧ y.2.2.2.2.2 ≤ h0.2.2 + R.slots) (K : ∀ (H' : Heap), u_Inv D cA base b Ls xs s h0 H' locs (cells + (y.2.2.2.2.1 - h.2.1)) (slots + (y.2.2.2.2.2 - h.2.2)) y.2.2.2 → W p l e R s m args below meth c H' locs (cells + (y.2.2.2.2.1 - h.2.1)) (slots + (y.2.2.2.2.2 - h.2.2)) Q (F0 m y.1 ls y.2.2.1)) : W p l e R s m args below meth c H locs cells slots Q (F0 m pc ls st) ∧ y.2.1 = L := by
  obtain ⟨hx, hb, hml, hown, hts, hK, hX, hAO, hbb, hbs, hfr, hlo⟩ := hF
  obtain ⟨hP, hS, e0, e1, e2, hO⟩ := hI
  have hd := u_okd hok rfl
  have ho := u_ok2 hok
  replace hst : v_new rs pc L st h = some (.inl y) := hst
  unfold v_new at hst
  split at hst
  · rename_i ci
    cases hst
    refine ⟨?_, rfl⟩
    obtain ⟨q, hq, hfq⟩ := u_any (show (vwCl[ci]?).any (fun q => decide (lw_g pl = some (.classLink own x q.1))) = true from ho)
    rw [decide_eq_true_eq] at hfq
    obtain ⟨d1, d2⟩ := u_def_ok ci q hq
    obtain ⟨r1, r2⟩ := hrm
    replace r1 : h.2.1 + 1 ≤ h0.2.1 + R.cells := r1
    replace r2 : h.2.2 + (u_def ci).length ≤ h0.2.2 + R.slots := r2
    rw [d1] at r2
    refine va_new hx hb hts (u_inw _ q hq) (u_tyF ci) (u_tyk ci q hq) hown (hts _ (u_tm hfq)) (hts _ (u_ins ci q hq)) (hts _ (u_ini ci q hq)) hK hP (u_w_D base cA h) hS (fun q hq => by omega) hq d2 (by omega) (by omega) hd (fun q0 H1 q1 q2 q3 => ?_)
    · rw [← d1] at r2 ⊢
      refine W_szle fun hz => ?_
      obtain rfl := u_fresh ⟨hP, hS, e0, e1, e2, hO⟩ hbs q1 q2 hz
      have hb2 : base ≤ h.2.1 := by omega
      have K2 := K H1
      have z1 : (u_new h (.inr (ci, u_def ci)) (u_def ci).length).2.1 - h.2.1 = 1 := by show h.2.1 + 1 - h.2.1 = 1; omega
      have z2 : (u_new h (.inr (ci, u_def ci)) (u_def ci).length).2.2 - h.2.2 = (u_def ci).length := by show h.2.2 + (u_def ci).length - h.2.2 = (u_def ci).length; omega
      dsimp only at K2
      rw [z1, z2] at K2
      exact K2 ⟨by rw [← u_w_push hb2]; exact q1, q3, e0, by show h0.2.1 + (cells + 1) = h.2.1 + 1; omega, by show h0.2.2 + (slots + (u_def ci).length) = h.2.2 + (u_def ci).length; omega, u_out_new hO hb2⟩
  · cases hst

theorem us_newarray {at' : ArrayType} (hF : u_Fix D cA base b Ls xs p R s m args meth c own bytes nL) (hI : u_Inv D cA base b Ls xs s h0 H locs cells slots h) (hok : u_ok own bytes rt init pc (.newarray at', rs) pl = true) (hst : ustep (.newarray at', rs) (pc, L, st, h) = some (.inl y)) (hrm : y.2.2.2.2.1 ≤ h0.2.1 + R.cells ∧ y.2.2.2.2.2 ≤ h0.2.2 + R.slots) (K : ∀ (H' : Heap), u_Inv D cA base b Ls xs s h0 H' locs (cells + (y.2.2.2.2.1 - h.2.1)) (slots + (y.2.2.2.2.2 - h.2.2)) y.2.2.2 → W p l e R s m args below meth c H' locs (cells + (y.2.2.2.2.1 - h.2.1)) (slots + (y.2.2.2.2.2 - h.2.2)) Q (F0 m y.1 ls y.2.2.1)) : W p l e R s m args below meth c H locs cells slots Q (F0 m pc ls st) ∧ y.2.1 = L := by
  obtain ⟨hx, hb, hml, hown, hts, hK, hX, hAO, hbb, hbs, hfr, hlo⟩ := hF
  obtain ⟨hP, hS, e0, e1, e2, hO⟩ := hI
  have hd := u_okd hok rfl
  have ho := of_decide_eq_true (u_ok2 hok)
  replace hst : v_newarray rs pc L st h = some (.inl y) := hst
  unfold v_newarray at hst
  split at hst
  · rename_i t n r
    split at hst
    · cases hst
    · rename_i hn
      have hn1 : ¬ n < 0 := fun q => hn (Or.inl q)
      have hn2 : n.toNatClampNeg ≤ 1000000 := Classical.not_not.mp fun q => hn (Or.inr q)
      have hwork : ∀ (ty : FieldType) (a0 : vp_A) (e' : UE), (Cond.arrayClass (newarray.typeOf at')).before args s = true → newarray.typeOf at' = ty → (∀ c9 : ClassId, vp_cell c9 a0 = arrV c9 n.toNatClampNeg (fun _ => defaultValue ty)) → componentBytes ty ≤ 8 → (∀ c9 : ClassId, va_K D vwCl (u_tys cA ++ [(c9, ty)]) s → (.inl (c9, a0) : va_E) = u_ce cA e') → some (Sum.inl (pc + 2, L, Value.ref h.2.1 :: r, u_new h e' n.toNatClampNeg)) = (some (Sum.inl y) : UO) → W p l e R s m args below meth c H locs cells slots Q (F0 m pc ls (.int n :: r)) ∧ y.2.1 = L := by
        intro ty a0 e' hac hty ha hcb hce hy
        cases hy
        refine ⟨?_, rfl⟩
        obtain ⟨r1, r2⟩ := hrm
        replace r1 : h.2.1 + 1 ≤ h0.2.1 + R.cells := r1
        replace r2 : h.2.2 + n.toNatClampNeg ≤ h0.2.2 + R.slots := r2
        refine va_newa hx hb hac hty hK hP (u_w_D base cA h) hS (fun q hq => by omega) ha hn1 rfl (by have := Nat.mul_le_mul hn2 hcb; omega) (by omega) (by omega) hd (fun q0 c9 H1 hK1 q1 q2 q3 => ?_)
        rw [hce c9 hK1] at q1 q2
        · refine W_szle fun hz => ?_
          obtain rfl := u_fresh ⟨hP, hS, e0, e1, e2, hO⟩ hbs q1 q2 hz
          have hb2 : base ≤ h.2.1 := by omega
          have K2 := K H1
          have z1 : (u_new h e' n.toNatClampNeg).2.1 - h.2.1 = 1 := by show h.2.1 + 1 - h.2.1 = 1; omega
          have z2 : (u_new h e' n.toNatClampNeg).2.2 - h.2.2 = n.toNatClampNeg := by show h.2.2 + n.toNatClampNeg - h.2.2 = n.toNatClampNeg; omega
          dsimp only at K2
          rw [z1, z2] at K2
          exact K2 ⟨by rw [← u_w_push hb2]; exact q1, q3, e0, by show h0.2.1 + (cells + 1) = h.2.1 + 1; omega, by show h0.2.2 + (slots + n.toNatClampNeg) = h.2.2 + n.toNatClampNeg; omega, u_out_new hO hb2⟩
      rcases ho with ⟨rfl, e9⟩ | ⟨rfl, e9⟩ | ⟨rfl, e9⟩ | ⟨rfl, e9⟩
      · cases e9
        exact hwork .byte (n.toNatClampNeg, .inl (fun _ => 0)) _ (hts _ u_acB) rfl (fun c9 => rfl) (by decide) (fun c9 hK1 => by rw [u_cAeq (i := 8) (j := 0) hK1 rfl rfl]; rfl) hst
      · cases e9
        exact hwork .int (n.toNatClampNeg, .inl (fun _ => 0)) _ (hts _ u_acI) rfl (fun c9 => rfl) (by decide) (fun c9 hK1 => by rw [u_cAeq (i := 8) (j := 1) hK1 rfl rfl]; rfl) hst
      · cases e9
        exact hwork .long (n.toNatClampNeg, .inr (.inl (fun _ => 0))) _ (hts _ u_acJ) rfl (fun c9 => rfl) (by decide) (fun c9 hK1 => by rw [u_cAeq (i := 8) (j := 2) hK1 rfl rfl]; rfl) hst
      · cases e9
        exact hwork .boolean (n.toNatClampNeg, .inl (fun _ => 0)) _ (hts _ u_acZ) rfl (fun c9 => rfl) (by decide) (fun c9 hK1 => by rw [u_cAeq (i := 8) (j := 3) hK1 rfl rfl]; rfl) hst
  · cases hst

theorem us_anewarray {x : Nat} (hF : u_Fix D cA base b Ls xs p R s m args meth c own bytes nL) (hI : u_Inv D cA base b Ls xs s h0 H locs cells slots h) (hok : u_ok own bytes rt init pc (.anewarray x, rs) pl = true) (hst : ustep (.anewarray x, rs) (pc, L, st, h) = some (.inl y)) (hrm : y.2.2.2.2.1 ≤ h0.2.1 + R.cells ∧ y.2.2.2.2.2 ≤ h0.2.2 + R.slots) (K : ∀ (H' : Heap), u_Inv D cA base b Ls xs s h0 H' locs (cells + (y.2.2.2.2.1 - h.2.1)) (slots + (y.2.2.2.2.2 - h.2.2)) y.2.2.2 → W p l e R s m args below meth c H' locs (cells + (y.2.2.2.2.1 - h.2.1)) (slots + (y.2.2.2.2.2 - h.2.2)) Q (F0 m y.1 ls y.2.2.1)) : W p l e R s m args below meth c H locs cells slots Q (F0 m pc ls st) ∧ y.2.1 = L := by
  obtain ⟨hx, hb, hml, hown, hts, hK, hX, hAO, hbb, hbs, hfr, hlo⟩ := hF
  obtain ⟨hP, hS, e0, e1, e2, hO⟩ := hI
  have hd := u_okd hok rfl
  have ho := u_ok2 hok
  replace hst : v_anewarray rs pc L st h = some (.inl y) := hst
  unfold v_anewarray at hst
  split at hst
  · rename_i t n r
    split at hst
    · cases hst
    · rename_i hn
      have hn1 : ¬ n < 0 := fun q => hn (Or.inl q)
      have hn2 : n.toNatClampNeg ≤ 1000000 := Classical.not_not.mp fun q => hn (Or.inr q)
      cases hst
      refine ⟨?_, rfl⟩
      have ho := of_decide_eq_true ho
      obtain ⟨ht, hl⟩ := ho
      obtain ⟨r1, r2⟩ := hrm
      replace r1 : h.2.1 + 1 ≤ h0.2.1 + R.cells := r1
      replace r2 : h.2.2 + n.toNatClampNeg ≤ h0.2.2 + R.slots := r2
      rcases ht with rfl | rfl | rfl
      · refine va_newq hx hb hown (hts _ (u_tm hl)) hAO.1 hK hP (u_w_D base cA h) hS (fun q hq => by omega) hn1 rfl (by omega) (by omega) (by omega) hd (fun q0 c9 H1 hK1 q1 q2 q3 => ?_)
        have hce : (.inl (c9, n.toNatClampNeg, .inr (.inr (.inr (.inr (fun _ => none))))) : va_E) = u_ce cA (.inl (4, n.toNatClampNeg, .inr (.inr (.inr (.inr u_none))))) := by rw [u_cAeq (i := 8) (j := 4) hK1 rfl rfl]; rfl
        rw [hce] at q1 q2
        refine W_szle fun hz => ?_
        obtain rfl := u_fresh ⟨hP, hS, e0, e1, e2, hO⟩ hbs q1 q2 hz
        have hb2 : base ≤ h.2.1 := by omega
        have K2 := K H1
        have z1 : (u_new h (.inl (4, n.toNatClampNeg, .inr (.inr (.inr (.inr u_none))))) n.toNatClampNeg).2.1 - h.2.1 = 1 := by show h.2.1 + 1 - h.2.1 = 1; omega
        have z2 : (u_new h (.inl (4, n.toNatClampNeg, .inr (.inr (.inr (.inr u_none))))) n.toNatClampNeg).2.2 - h.2.2 = n.toNatClampNeg := by show h.2.2 + n.toNatClampNeg - h.2.2 = n.toNatClampNeg; omega
        dsimp only at K2
        rw [z1, z2] at K2
        exact K2 ⟨by rw [← u_w_push hb2]; exact q1, q3, e0, by show h0.2.1 + (cells + 1) = h.2.1 + 1; omega, by show h0.2.2 + (slots + n.toNatClampNeg) = h.2.2 + n.toNatClampNeg; omega, u_out_new hO hb2⟩
      · refine va_newq hx hb hown (hts _ (u_tm hl)) hAO.2.1 hK hP (u_w_D base cA h) hS (fun q hq => by omega) hn1 rfl (by omega) (by omega) (by omega) hd (fun q0 c9 H1 hK1 q1 q2 q3 => ?_)
        have hce : (.inl (c9, n.toNatClampNeg, .inr (.inr (.inr (.inr (fun _ => none))))) : va_E) = u_ce cA (.inl (5, n.toNatClampNeg, .inr (.inr (.inr (.inr u_none))))) := by rw [u_cAeq (i := 8) (j := 5) hK1 rfl rfl]; rfl
        rw [hce] at q1 q2
        refine W_szle fun hz => ?_
        obtain rfl := u_fresh ⟨hP, hS, e0, e1, e2, hO⟩ hbs q1 q2 hz
        have hb2 : base ≤ h.2.1 := by omega
        have K2 := K H1
        have z1 : (u_new h (.inl (5, n.toNatClampNeg, .inr (.inr (.inr (.inr u_none))))) n.toNatClampNeg).2.1 - h.2.1 = 1 := by show h.2.1 + 1 - h.2.1 = 1; omega
        have z2 : (u_new h (.inl (5, n.toNatClampNeg, .inr (.inr (.inr (.inr u_none))))) n.toNatClampNeg).2.2 - h.2.2 = n.toNatClampNeg := by show h.2.2 + n.toNatClampNeg - h.2.2 = n.toNatClampNeg; omega
        dsimp only at K2
        rw [z1, z2] at K2
        exact K2 ⟨by rw [← u_w_push hb2]; exact q1, q3, e0, by show h0.2.1 + (cells + 1) = h.2.1 + 1; omega, by show h0.2.2 + (slots + n.toNatClampNeg) = h.2.2 + n.toNatClampNeg; omega, u_out_new hO hb2⟩
      · refine va_newq hx hb hown (hts _ (u_tm hl)) hAO.2.2.1 hK hP (u_w_D base cA h) hS (fun q hq => by omega) hn1 rfl (by omega) (by omega) (by omega) hd (fun q0 c9 H1 hK1 q1 q2 q3 => ?_)
        have hce : (.inl (c9, n.toNatClampNeg, .inr (.inr (.inr (.inr (fun _ => none))))) : va_E) = u_ce cA (.inl (6, n.toNatClampNeg, .inr (.inr (.inr (.inr u_none))))) := by rw [u_cAeq (i := 8) (j := 6) hK1 rfl rfl]; rfl
        rw [hce] at q1 q2
        refine W_szle fun hz => ?_
        obtain rfl := u_fresh ⟨hP, hS, e0, e1, e2, hO⟩ hbs q1 q2 hz
        have hb2 : base ≤ h.2.1 := by omega
        have K2 := K H1
        have z1 : (u_new h (.inl (6, n.toNatClampNeg, .inr (.inr (.inr (.inr u_none))))) n.toNatClampNeg).2.1 - h.2.1 = 1 := by show h.2.1 + 1 - h.2.1 = 1; omega
        have z2 : (u_new h (.inl (6, n.toNatClampNeg, .inr (.inr (.inr (.inr u_none))))) n.toNatClampNeg).2.2 - h.2.2 = n.toNatClampNeg := by show h.2.2 + n.toNatClampNeg - h.2.2 = n.toNatClampNeg; omega
        dsimp only at K2
        rw [z1, z2] at K2
        exact K2 ⟨by rw [← u_w_push hb2]; exact q1, q3, e0, by show h0.2.1 + (cells + 1) = h.2.1 + 1; omega, by show h0.2.2 + (slots + n.toNatClampNeg) = h.2.2 + n.toNatClampNeg; omega, u_out_new hO hb2⟩
  · cases hst

theorem us_objinit {x : Nat} (hF : u_Fix D cA base b Ls xs p R s m args meth c own bytes nL) (hI : u_Inv D cA base b Ls xs s h0 H locs cells slots h) (hLR : u_LR nL L ls) (hok : u_ok own bytes rt init pc (.invokespecial x, rs) pl = true) (hst : ustep (.invokespecial x, rs) (pc, L, st, h) = some (.inl y)) (K : W p l e R s m args below meth c H locs cells slots Q (F0 m y.1 ls y.2.2.1)) : W p l e R s m args below meth c H locs cells slots Q (F0 m pc ls st) ∧ y.2.1 = L ∧ y.2.2.2 = h := by
  obtain ⟨hx, hb, hml, hown, hts, hK, hX, hAO, hbb, hbs, hfr, hlo⟩ := hF
  obtain ⟨hP, hS, e0, e1, e2, hO⟩ := hI
  have hd := u_okd hok rfl
  have ho := u_ok2 hok
  replace hst : v_invokespecial rs pc L st h = some (.inl y) := hst
  unfold v_invokespecial at hst
  split at hst
  · rename_i a r
    split at hst
    · rename_i hr
      cases hst
      refine ⟨?_, rfl, rfl⟩
      have hl := of_decide_eq_true (show decide (lw_g pl = some (.methodLink own x objectInit)) = true from ho)
      have hcat : (r.map fun v => v.category).sum ≤ 16 := u_cats hr
      exact W.objInit hx hb hown (hts _ (u_tm hl)) (hts _ u_oi) (hts _ u_oc) rfl (by rw [hml]; exact hLR.2.1) rfl hd hfr (by show 2 * 0 + _ + 12 ≤ _; omega) K
    · cases hst
  · cases hst
theorem us_arraycopy {x : Nat} (hF : u_Fix D cA base b Ls xs p R s m args meth c own bytes nL) (hI : u_Inv D cA base b Ls xs s h0 H locs cells slots h) (hLR : u_LR nL L ls) (hok : u_ok own bytes rt init pc (.invokestatic x, rs) pl = true) (hst : ustep (.invokestatic x, rs) (pc, L, st, h) = some (.inl y)) (K : ∀ (H' : Heap) (locs' : List Loc), u_Inv D cA base b Ls xs s h0 H' locs' cells slots y.2.2.2 → W p l e R s m args below meth c H' locs' cells slots Q (F0 m y.1 ls y.2.2.1)) : W p l e R s m args below meth c H locs cells slots Q (F0 m pc ls st) ∧ y.2.1 = L := by
  obtain ⟨hx, hb, hml, hown, hts, hK, hX, hAO, hbb, hbs, hfr, hlo⟩ := hF
  obtain ⟨hP, hS, e0, e1, e2, hO⟩ := hI
  have hd := u_okd hok rfl
  have ho := u_ok2 hok
  replace hst : v_invokestatic rs pc L st h = some (.inl y) := hst
  unfold v_invokestatic at hst
  split at hst
  · rename_i n dp a sp a0 r
    split at hst
    · rename_i e' ev
      cases hst
      refine ⟨?_, rfl⟩
      have hl := of_decide_eq_true (show decide (lw_g pl = some (.methodLink own x arraycopyName)) = true from ho)
      split at ev
      · rename_i hr
        have hcat : (r.map fun v => v.category).sum ≤ 16 := u_cats hr
        unfold u_cpy at ev
        split at ev
        · rename_i n0 f n1 g he0 he1
          split at ev
          · cases ev
          · rename_i hn
            cases ev
            have w1 : ¬ sp < 0 := fun q => hn (Or.inl q)
            have w2 : ¬ dp < 0 := fun q => hn (Or.inr (Or.inl q))
            have w3 : ¬ n < 0 := fun q => hn (Or.inr (Or.inr (Or.inl q)))
            have w4 : sp.toNatClampNeg + n.toNatClampNeg ≤ n0 := Classical.not_not.mp fun q => hn (Or.inr (Or.inr (Or.inr (Or.inl q))))
            have w5 : dp.toNatClampNeg + n.toNatClampNeg ≤ n1 := Classical.not_not.mp fun q => hn (Or.inr (Or.inr (Or.inr (Or.inr q))))
            obtain ⟨g1, g2⟩ := (u_pool_a hO he0).resolve_right (fun z => absurd z.2.1 (by decide))
            obtain ⟨g3, g4⟩ := (u_pool_a hO he1).resolve_right (fun z => absurd z.2.1 (by decide))
            obtain ⟨k0, hk⟩ := u_w_at (cA := cA) g1 g2
            obtain ⟨k1, hk1⟩ := u_w_at (cA := cA) g3 g4
            have hk2 := hk1
            rw [he0] at hk
            rw [he1] at hk1
            have hnf : nativeFrameWords "java/lang/System" "arraycopy" 5 ≤ 30 := by decide
            exact va_copyi hx hb (by rw [hml]; exact hLR.2.1.symm) hown (hts _ (u_tm hl)) (hts _ u_acn) (hts _ u_acs) (hts _ u_aci) hK hP (u_w_D base cA h) hS k0 k1 1 1 hk hk1 rfl rfl rfl w1 w2 w3 w4 w5 (fun _ _ => rfl) hfr (by omega) hd (fun H1 locs1 q1 _ q3 => K H1 locs1 ⟨by rw [← u_w_set (e := .inl (1, n1, .inl (va_cpy f g sp.toNatClampNeg dp.toNatClampNeg n.toNatClampNeg))) hk2]; exact q1, q3, e0, e1, e2, u_out_up hO ⟨g3, g4⟩⟩)
        · cases ev
      · cases ev
    · cases hst
  · cases hst
end Sim3
