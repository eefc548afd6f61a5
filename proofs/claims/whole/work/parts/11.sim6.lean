/-! ===== a call by the callee's contract; the run ===== -/
section Sim6
variable {D : va_G} {cA : Nat → ClassId} {base b Ls : Nat} {xs : Nat → Int32} {p : Program} {l : Launch} {e : Env} {R : Room} {s : State} {m : MethodId} {args : Array Value} {below : List Frame} {meth : Method} {c : Code} {own : String} {bytes : ByteArray} {nL : Nat} {rt : Option FieldType} {init : Bool} {Q : State → Prop}
variable {h0 h : UH} {H : Heap} {locs : List Loc} {cells slots : Nat} {pc pl : Nat} {L : List (Option Value)} {ls : Array Slot} {st : List Value} {y : UC} {rs : List Nat} {mt : Nat → UM}
theorem u_arg_eq {n : Nat} {as r : List Value} (h : u_arg n st = (as, r)) : st = as.reverse ++ r := by
  unfold u_arg at h
  cases h
  simp
theorem u_cls_some {a ci : Nat} (h1 : u_cls h a = ci) (h2 : ci ≠ 99) : ∃ fs, h.1 a = .inr (ci, fs) := by
  unfold u_cls at h1
  split at h1
  · rename_i c' fs e'
    subst h1
    exact ⟨fs, e'⟩
  · exact absurd h1.symm h2
set_option maxRecDepth 100000 in
theorem u_rm60 {a d r : Nat} (h : a ≤ 40) (h2 : 60 * (d + 9) ≤ r) : 8 + (a + 11) + 60 * (d + 8) ≤ r := by
  omega
theorem u_callr {ins : Instr} {d mi : Nat} {as r : List Value} {res : UR} (hF : u_Fix D cA base b Ls xs p R s m args meth c own bytes nL) (hI : u_Inv D cA base b Ls xs s h0 H locs cells slots h) (hLR : u_LR nL L ls) (hok : u_ok own bytes rt init pc (ins, rs) pl = true) (hc : c_ok mt own (ins, rs)) (hm : m_ok (mt mi)) (hcl : ucall (ins, rs) st h = some (mi, as, r)) (hM : u_Met D cA base b Ls xs l d (mt mi) as h res) (hd1 : d + 9 ≤ R.frames) (hd2 : 60 * (d + 9) ≤ R.locals) (hmo : h.2.1 ≤ res.2.2.1 ∧ h.2.2 ≤ res.2.2.2) (hrm : res.2.2.1 ≤ h0.2.1 + R.cells ∧ res.2.2.2 ≤ h0.2.2 + R.slots)
    (K : ∀ (H' : Heap) (locs' : List Loc) (cells' slots' : Nat), u_Inv D cA base b Ls xs s h0 H' locs' cells' slots' res.2 → W p l e R s m args below meth c H' locs' cells' slots' Q (F0 m (pc + 3) ls (res.1.toList ++ r))) : W p l e R s m args below meth c H locs cells slots Q (F0 m pc ls st) := by
  refine W_szle fun hz => ?_
  have hsz := u_size hF hI hz
  have hF' := hF
  obtain ⟨hx, hb, hml, hown, hts, hK, hX, hAO, hbb, hbs, hfr, hlo⟩ := hF
  have hI' := hI
  obtain ⟨hP, hS, e0, e1, e2, hO⟩ := hI
  obtain ⟨m1, ⟨m2, m3, m4⟩, m5, m6, m7, m8⟩ := hm
  have hG := m_good m5
  have hR : (u_rm d h res.2).frames + 1 ≤ R.frames ∧ 8 + ((mt mi).2.2.1 + 11) + (u_rm d h res.2).locals ≤ R.locals := ⟨hd1, u_rm60 m7 hd2⟩
  have hroom : cells + (res.2.2.1 - h.2.1) ≤ R.cells ∧ slots + (res.2.2.2 - h.2.2) ≤ R.slots := by omega
  have hpre : ∀ as' : List Value, as' = as → PreS s H (u_Pc D cA base b Ls xs as h) as' := fun as' e' => by subst e'; exact ⟨u_blind, u_pre hF' hI' hsz as'⟩
  unfold ucall at hcl
  split at hcl
  · rename_i x mi' n ci eq1 eq2
    dsimp only at eq1 eq2
    subst eq1; subst eq2
    obtain ⟨hc1, hc2⟩ : (mt mi').2.2.2.2 = (0, ci, n) ∧ Cond.methodLink own x (mt mi').1 ∈ lw_T := hc
    split at hcl
    · rename_i b0 as' r' ea
      split at hcl
      · rename_i hq
        obtain ⟨w1, w2, w3⟩ := hq
        cases hcl
        have est := u_arg_eq ea
        subst est
        have hd := u_okd hok rfl
        obtain ⟨-, k2, k3, k4⟩ : (mt mi).2.2.2.2.1 = 0 ∧ Cond.instanceMethod (mt mi).1 ∈ lw_T ∧ Cond.selects (mt mi).1.cls (mt mi).1 (mt mi).1 ∈ lw_T ∧ m_rec (mt mi) := by
          rcases m8 with g | g | g
          · exact g
          · rw [hc1] at g; exact absurd (show (0 : Nat) = 1 from g.1) (by decide)
          · rw [hc1] at g; rcases g.1 with z | z
            · exact absurd (show (0 : Nat) = 2 from z) (by decide)
            · exact absurd (show (0 : Nat) = 3 from z) (by decide)
        obtain ⟨q, hq, hq1⟩ := k4
        rw [hc1] at hq
        obtain ⟨fs, hfs⟩ := u_cls_some w2 (u_ci99 hq)
        obtain ⟨g1, g2⟩ := u_pool_o hO hfs (u_ci99 hq)
        obtain ⟨k0, hk⟩ := u_w_at (cA := cA) g1 g2
        rw [hfs] at hk
        have hrecv := va_recv hK hP (q0 := k0) hq hk
        rw [hq1] at hrecv
        have hn : as'.length = (mt mi).2.2.2.2.2.2 := by rw [hc1]; exact w1
        refine u_back hF' hI' hsz (by omega) (by omega) (va_runV (As := as') (rest := r) ⟨hx, hb, hml, hown, hts⟩ hM (cwV (mt mi).2.2.2.2.2.2 hts ?_ rfl rfl rfl ⟨rfl, m2, m3, m4⟩ hR) ⟨u_blind, hrecv, u_pre hF' hI' hsz _⟩ rfl hn hLR.2.1 (by simp) (lv_room (u_cats w3)) hd hroom) (fun H' locs' i => K H' locs' _ _ i)
        intro w hw
        unfold wsV at hw
        rcases List.mem_append.mp hw with z | z
        · simp only [List.mem_cons, List.not_mem_nil, or_false] at z
          rcases z with rfl | rfl | rfl | rfl
          · exact ⟨hc2, good_of_word (List.mem_filter.mp hc2).2⟩
          · exact ⟨k2, good_of_word (List.mem_filter.mp k2).2⟩
          · exact ⟨k3, good_of_word (List.mem_filter.mp k3).2⟩
          · exact ⟨m6, good_of_word (List.mem_filter.mp m6).2⟩
        · exact hG w z
      · cases hcl
    · cases hcl
  · rename_i x mi' n ci eq1 eq2
    dsimp only at eq1 eq2
    subst eq1; subst eq2
    split at hcl
    · rename_i b0 as' r' ea
      split at hcl
      · rename_i hq
        obtain ⟨w1, w2, w3⟩ := hq
        cases hcl
        have est := u_arg_eq ea
        subst est
        have hd := u_okd hok rfl
        rcases (hc : ((mt mi).2.2.2.2.1 = 2 ∧ (mt mi).2.2.2.2.2.2 = n ∧ Cond.methodLink own x (mt mi).1 ∈ lw_T) ∨ ((mt mi).2.2.2.2.1 = 3 ∧ (mt mi).2.2.2.2.2.2 = n ∧ own = "HeadCounts" ∧ x = 76 ∧ (mt mi).1 = ⟨"HeadCounts$Scene", "<init>", "()V"⟩)) with ⟨hc0, hc1, hc2⟩ | ⟨hc0, hc1, hc2, hc3, hc4⟩
        · obtain ⟨-, k2, k3, k4⟩ : ((mt mi).2.2.2.2.1 = 2 ∨ (mt mi).2.2.2.2.1 = 3) ∧ Cond.instanceMethod (mt mi).1 ∈ lw_T ∧ (mt mi).1.name = "<init>" ∧ (mt mi).2.2.2.1 = none := by
            rcases m8 with g | g | g
            · rw [hc0] at g; exact absurd g.1 (by decide)
            · rw [hc0] at g; exact absurd g.1 (by decide)
            · exact g
          have hn : as'.length = (mt mi).2.2.2.2.2.2 := by rw [hc1]; exact w1
          unfold u_Met m_ws at hM
          unfold m_ws at hG
          rw [k4] at hM hG
          exact u_back hF' hI' hsz (by omega) (by omega) (va_runI (As := as') (rest := r) ⟨hx, hb, hml, hown, hts⟩ hM (cwI (mt mi).2.2.2.2.2.2 hts hG rfl rfl rfl (hts _ m6) (hts _ hc2) (hts _ k2) k3 ⟨m2, m3, m4⟩ hR) (hpre _ rfl) rfl hn hLR.2.1 (by simp) (lv_room (u_cats w3)) hd hroom) (fun H' locs' i => K H' locs' _ _ i)
        · obtain ⟨-, k2, k3, k4⟩ : ((mt mi).2.2.2.2.1 = 2 ∨ (mt mi).2.2.2.2.1 = 3) ∧ Cond.instanceMethod (mt mi).1 ∈ lw_T ∧ (mt mi).1.name = "<init>" ∧ (mt mi).2.2.2.1 = none := by
            rcases m8 with g | g | g
            · rw [hc0] at g; exact absurd g.1 (by decide)
            · rw [hc0] at g; exact absurd g.1 (by decide)
            · exact g
          have hn : as'.length = (mt mi).2.2.2.2.2.2 := by rw [hc1]; exact w1
          unfold u_Met m_ws at hM
          unfold m_ws at hG
          rw [k4] at hM hG
          have hnw := hAO.2.2.2
          subst hc2; subst hc3
          rw [← hc4] at hnw
          exact u_back hF' hI' hsz (by omega) (by omega) (va_runIN (As := as') (rest := r) ⟨hx, hb, hml, hown, hts⟩ hM ⟨va_cnB (mt mi).2.2.2.2.2.2 hts hG rfl rfl rfl hnw (hts _ m6) ⟨m2, m3, m4⟩ hR, k3, hts _ k2⟩ (hpre _ rfl) rfl hn hLR.2.1 (by simp) (lv_room (u_cats w3)) hd hroom) (fun H' locs' i => K H' locs' _ _ i)
      · cases hcl
    · cases hcl
  · rename_i x mi' n eq1 eq2
    dsimp only at eq1 eq2
    subst eq1; subst eq2
    obtain ⟨hc0, hc1, hc2⟩ : (mt mi').2.2.2.2.1 = 1 ∧ (mt mi').2.2.2.2.2.2 = n ∧ Cond.methodLink own x (mt mi').1 ∈ lw_T := hc
    split at hcl
    rename_i as' r' ea
    split at hcl
    · rename_i hq
      obtain ⟨w1, w3⟩ := hq
      cases hcl
      have est := u_arg_eq ea
      subst est
      have hd := u_okd hok rfl
      have k2 : Cond.static (mt mi).1 ∈ lw_T := by
        rcases m8 with g | g | g
        · rw [hc0] at g; exact absurd g.1 (by decide)
        · exact g.2
        · rw [hc0] at g; rcases g.1 with z | z <;> exact absurd z (by decide)
      have hn : as.length = (mt mi).2.2.2.2.2.2 := by rw [hc1]; exact w1
      exact u_back hF' hI' hsz (by omega) (by omega) (va_runS (As := as) (rest := r) ⟨hx, hb, hml, hown, hts⟩ hM ⟨callB_of (mt mi).2.2.2.2.2.2 hts hG rfl rfl rfl (hts _ m6) (hts _ hc2) ⟨m2, m3, m4⟩ hR, hts _ k2⟩ (hpre _ rfl) rfl hn hLR.2.1 (by simp) (lv_room (u_cats w3)) hd hroom) (fun H' locs' i => K H' locs' _ _ i)
    · cases hcl
  · cases hcl
theorem u_mono {call : Nat → List Value → UH → UR → Prop} {code : Nat → Option UI} (hc : ∀ mi as h r, call mi as h r → h.2.1 ≤ r.2.2.1 ∧ h.2.2 ≤ r.2.2.2) : ∀ (n : Nat) (x : UC) (res : UR), Ux call code n x res → x.2.2.2.2.1 ≤ res.2.2.1 ∧ x.2.2.2.2.2 ≤ res.2.2.2
  | 0, _, _, h => h.elim
  | n + 1, (pc, L, st, h), res, hu => by
    obtain ⟨L', -, ⟨ins, rs⟩, -, ⟨y, hst, hn⟩ | hst | ⟨mi, as, r, v, h', -, hcl, hn⟩⟩ := hu
    · have h1 := u_stm hst
      have h2 := u_mono hc n y res hn
      exact ⟨Nat.le_trans h1.1 h2.1, Nat.le_trans h1.2 h2.2⟩
    · rw [(u_str hst).1]; exact ⟨Nat.le_refl _, Nat.le_refl _⟩
    · have h1 := hc mi as h (v, h') hcl
      have h2 := u_mono hc n _ res hn
      exact ⟨Nat.le_trans h1.1 h2.1, Nat.le_trans h1.2 h2.2⟩
/-- A RUN of the small machine is the machine's -/
theorem u_sim {call : Nat → List Value → UH → UR → Prop} {code : Nat → Option UI} {d : Nat} {res : UR} (hF : u_Fix D cA base b Ls xs p R s m args meth c own bytes nL) (hin : init = true → meth.name = "<init>")
    (hcode : ∀ pc i, code pc = some i → ∃ pl, u_ok own bytes rt init pc i pl = true ∧ c_ok mt own i) (hcall : ∀ mi as h r, call mi as h r → m_ok (mt mi) ∧ u_Met D cA base b Ls xs l d (mt mi) as h r) (hmo : ∀ mi as h r, call mi as h r → h.2.1 ≤ r.2.2.1 ∧ h.2.2 ≤ r.2.2.2) (hd1 : d + 9 ≤ R.frames) (hd2 : 60 * (d + 9) ≤ R.locals) (hrm : res.2.2.1 ≤ h0.2.1 + R.cells ∧ res.2.2.2 ≤ h0.2.2 + R.slots)
    (hret : ∀ (ins : Instr) (rs : List Nat) (pl pc : Nat) (L : List (Option Value)) (st : List Value) (h : UH) (H : Heap) (locs : List Loc) (cells slots : Nat) (ls : Array Slot), u_ok own bytes rt init pc (ins, rs) pl = true → ustep (ins, rs) (pc, L, st, h) = some (.inr res) → u_Inv D cA base b Ls xs s h0 H locs cells slots h → W p l e R s m args below meth c H locs cells slots Q (F0 m pc ls st)) :
    ∀ (n pc : Nat) (L : List (Option Value)) (st : List Value) (h : UH) (H : Heap) (locs : List Loc) (cells slots : Nat) (ls : Array Slot), Ux call code n (pc, L, st, h) res → u_Inv D cA base b Ls xs s h0 H locs cells slots h → u_LR nL L ls → W p l e R s m args below meth c H locs cells slots Q (F0 m pc ls st) := by
  intro n
  induction n with
  | zero => intro _ _ _ _ _ _ _ _ _ hu; exact hu.elim
  | succ n ih =>
    intro pc L st h H locs cells slots ls hu hI hLR
    obtain ⟨L', hfg, ⟨ins, rs⟩, hi, hu⟩ := hu
    have hLR' := hLR.fg hfg
    obtain ⟨pl, hok, hc⟩ := hcode pc _ hi
    rcases hu with ⟨y, hst, hn⟩ | hst | ⟨mi, as, r, v, h', hcl, hca, hn⟩
    · have hm := u_mono hmo n y res hn
      exact u_one hF hin hI hLR' hok hst ⟨Nat.le_trans hm.1 hrm.1, Nat.le_trans hm.2 hrm.2⟩ (fun ls' H' locs' cells' slots' q1 q2 => ih y.1 y.2.1 y.2.2.1 y.2.2.2 H' locs' cells' slots' ls' hn q2 q1)
    · exact hret ins rs pl pc L' st h H locs cells slots ls hok hst hI
    · have hm := u_mono hmo n _ res hn
      obtain ⟨g1, g2⟩ := hcall mi as h (v, h') hca
      exact u_callr hF hI hLR' hok hc g1 hcl g2 hd1 hd2 (hmo mi as h _ hca) ⟨Nat.le_trans hm.1 hrm.1, Nat.le_trans hm.2 hrm.2⟩ (fun H' locs' cells' slots' q => ih _ _ _ _ H' locs' cells' slots' ls hn q hLR')
end Sim6
