/-! ===== one step of the small machine, by the machine: the heap ===== -/
section Sim2
variable {D : va_G} {cA : Nat → ClassId} {base b Ls : Nat} {xs : Nat → Int32} {p : Program} {l : Launch} {e : Env} {R : Room} {s : State} {m : MethodId} {args : Array Value} {below : List Frame} {meth : Method} {c : Code} {own : String} {bytes : ByteArray} {nL : Nat} {rt : Option FieldType} {init : Bool} {Q : State → Prop}
variable {h0 h : UH} {H : Heap} {locs : List Loc} {cells slots : Nat} {pc pl : Nat} {L : List (Option Value)} {ls : Array Slot} {st : List Value} {y : UC} {rs : List Nat}
theorem u_pool_o (hO : u_out base b Ls xs h) {a ci : Nat} {fs : List Value} (he : h.1 a = .inr (ci, fs)) (hc : ci ≠ 99) : base ≤ a ∧ a < h.2.1 := by
  rcases Classical.em (base ≤ a ∧ a < h.2.1) with q | q
  · exact q
  · rcases hO a q with g | ⟨-, g⟩
    · rw [he] at g; cases g; exact absurd rfl hc
    · rw [he] at g; cases g
theorem u_pool_a (hO : u_out base b Ls xs h) {a t : Nat} {x : vp_A} (he : h.1 a = .inl (t, x)) : (base ≤ a ∧ a < h.2.1) ∨ (a = b ∧ t = 9 ∧ x = (Ls, .inl xs)) := by
  rcases Classical.em (base ≤ a ∧ a < h.2.1) with q | q
  · exact Or.inl q
  · rcases hO a q with g | ⟨e1, g⟩
    · rw [he] at g; cases g
    · rw [he] at g; cases g; exact Or.inr ⟨e1, rfl, rfl⟩
theorem u_out_up (hO : u_out base b Ls xs h) {a : Nat} {e : UE} (ha : base ≤ a ∧ a < h.2.1) : u_out base b Ls xs (va_up h.1 a e, h.2.1, h.2.2) := by
  intro a' h'
  have hne : a' ≠ a := fun q => h' (by rw [q]; exact ha)
  have := hO a' h'
  simpa [va_up, hne] using this
theorem u_out_new (hO : u_out base b Ls xs h) (hb : base ≤ h.2.1) {e : UE} {n : Nat} : u_out base b Ls xs (u_new h e n) := by
  intro a' h'
  have hne : a' ≠ h.2.1 := fun q => h' (by rw [q]; exact ⟨hb, Nat.lt_succ_self _⟩)
  have := hO a' (fun q => h' ⟨q.1, Nat.lt_succ_of_lt q.2⟩)
  simpa [u_new, va_up, hne] using this
theorem u_cAeq {tys : List (ClassId × FieldType)} {U : State} {i j : Nat} {c1 c2 : ClassId} {ty : FieldType} (hK : va_K D vwCl tys U) (h1 : tys[i]? = some (c1, ty)) (h2 : tys[j]? = some (c2, ty)) : c1 = c2 := by
  have g1 := (hK.2 i _ h1).2
  have g2 := (hK.2 j _ h2).2
  cases ty with
  | object C =>
    obtain ⟨_, _, _, _, _, g1⟩ := g1
    obtain ⟨_, _, _, _, _, g2⟩ := g2
    exact Option.some.inj (g1.symm.trans g2)
  | _ => exact Option.some.inj (Eq.trans (Eq.symm g1) g2)
theorem W_szle {g : JFrame} (k : H.size ≤ s.heap.size + cells → W p l e R s m args below meth c H locs cells slots Q g) : W p l e R s m args below meth c H locs cells slots Q g :=
  fun T hT X => k (by rw [← hT]; exact X.heapSize) T hT X
theorem u_fit_ok {ty : FieldType} {t : Nat} {v : Value} (h1 : u_tc ty = t) (h2 : u_fit t v = true) : narrow ty v = v ∧ fits ty v = true := by
  subst h1
  cases ty <;> cases v <;> simp [u_tc, u_fit] at h2 <;> first | exact ⟨rfl, rfl⟩ | (rcases h2 with h2 | h2 <;> subst h2 <;> decide)
theorem u_any {α : Type} {o : Option α} {f : α → Bool} (h : o.any f = true) : ∃ q, o = some q ∧ f q = true := by
  cases o with
  | none => cases h
  | some q => exact ⟨q, rfl, h⟩
theorem u_ci99 {ci : Nat} {q : vw_C} (h : vwCl[ci]? = some q) : ci ≠ 99 := fun e => by subst e; cases h
/-- the new cell is the next one -/
theorem u_fresh (hI : u_Inv D cA base b Ls xs s h0 H locs cells slots h) (hb : base ≤ s.heap.size) {q : Nat} {x : va_E} {H1 : Heap} (hP1 : va_P D vwCl (u_w base cA h ++ [(q, x)]) H1) (hD1 : va_D (fun q => base ≤ q) (u_w base cA h ++ [(q, x)])) (hz : H1.size ≤ s.heap.size + (cells + 1)) : q = h.2.1 := by
  obtain ⟨hP, hS, e0, e1, e2, hO⟩ := hI
  have hlast : (u_w base cA h ++ [(q, x)])[(u_w base cA h).length]? = some (q, x) := by simp
  have g1 : q < H1.size := (hP1 _ _ hlast).lt
  have g2 : base ≤ q := hD1.2 _ _ hlast
  rcases Nat.lt_or_ge q h.2.1 with g | g
  · obtain ⟨k0, hk⟩ := u_w_at (cA := cA) g2 g
    have hk' : k0 < (u_w base cA h).length := (List.getElem?_eq_some_iff.mp hk).1
    have hk2 : (u_w base cA h ++ [(q, x)])[k0]? = some (q, u_ce cA (h.1 q)) := by rw [List.getElem?_append_left hk']; exact hk
    have := hD1.1 _ _ _ _ hk2 hlast rfl
    omega
  · omega
theorem us_getfield {x : Nat} (hF : u_Fix D cA base b Ls xs p R s m args meth c own bytes nL) (hI : u_Inv D cA base b Ls xs s h0 H locs cells slots h) (hok : u_ok own bytes rt init pc (.getfield x, rs) pl = true) (hst : ustep (.getfield x, rs) (pc, L, st, h) = some (.inl y)) (K : W p l e R s m args below meth c H locs cells slots Q (F0 m y.1 ls y.2.2.1)) : W p l e R s m args below meth c H locs cells slots Q (F0 m pc ls st) ∧ y.2.1 = L ∧ y.2.2.2 = h := by
  obtain ⟨hx, hb, hml, hown, hts, hK, -⟩ := hF
  obtain ⟨hP, hS, e0, e1, e2, hO⟩ := hI
  have hd := u_okd hok rfl
  have ho := u_ok2 hok
  replace hst : v_getfield rs pc L st h = some (.inl y) := hst
  unfold v_getfield at hst
  split at hst
  · rename_i ci k a r
    obtain ⟨q, hq, hfq⟩ := u_any (show (vwCl[ci]?).any (ok_fq own x k pl) = true from ho)
    unfold ok_fq at hfq
    rw [Bool.and_eq_true, decide_eq_true_eq, decide_eq_true_eq] at hfq
    split at hst
    · rename_i v ev
      cases hst
      unfold u_gf at ev
      split at ev
      · rename_i c' fs he
        split at ev
        · rename_i ec
          subst ec
          obtain ⟨g1, g2⟩ := u_pool_o hO he (u_ci99 hq)
          obtain ⟨k0, hk⟩ := u_w_at (cA := cA) g1 g2
          rw [he] at hk
          exact ⟨va_get hx hb hts (u_inw _ q hq) hown hK hP k0 hk hq k hfq.1 (hts _ (u_tm hfq.2)) (fun _ h9 => h9) ev hd K, rfl, rfl⟩
        · cases ev
      · cases ev
    · cases hst
  · cases hst
theorem us_putfield {x : Nat} (hF : u_Fix D cA base b Ls xs p R s m args meth c own bytes nL) (hin : init = true → meth.name = "<init>") (hI : u_Inv D cA base b Ls xs s h0 H locs cells slots h) (hok : u_ok own bytes rt init pc (.putfield x, rs) pl = true) (hst : ustep (.putfield x, rs) (pc, L, st, h) = some (.inl y)) (K : ∀ (H' : Heap) (locs' : List Loc), u_Inv D cA base b Ls xs s h0 H' locs' cells slots y.2.2.2 → W p l e R s m args below meth c H' locs' cells slots Q (F0 m y.1 ls y.2.2.1)) : W p l e R s m args below meth c H locs cells slots Q (F0 m pc ls st) ∧ y.2.1 = L := by
  obtain ⟨hx, hb, hml, hown, hts, hK, -⟩ := hF
  obtain ⟨hP, hS, e0, e1, e2, hO⟩ := hI
  have hd := u_okd hok rfl
  have ho := u_ok2 hok
  replace hst : v_putfield rs pc L st h = some (.inl y) := hst
  unfold v_putfield at hst
  split at hst
  · rename_i ci k t v a r
    replace ho : (decide (u_tc (u_tyF ci k) = t) && (vwCl[ci]?).any (fun q => ok_fq own x k pl q && ok_fin own init k q)) = true := ho
    rw [Bool.and_eq_true, decide_eq_true_eq] at ho
    obtain ⟨q, hq, hfq⟩ := u_any ho.2
    rw [Bool.and_eq_true] at hfq
    obtain ⟨hfq, hfin⟩ := hfq
    unfold ok_fq at hfq
    rw [Bool.and_eq_true, decide_eq_true_eq, decide_eq_true_eq] at hfq
    unfold ok_fin at hfin
    rw [Bool.or_eq_true, Bool.and_eq_true, decide_eq_true_eq, decide_eq_true_eq] at hfin
    split at hst
    · rename_i e' ev
      cases hst
      unfold u_pf at ev
      split at ev
      · rename_i c' fs he
        split at ev
        · rename_i ec
          obtain ⟨ec, hkl, hft⟩ := ec
          subst ec
          cases ev
          obtain ⟨g1, g2⟩ := u_pool_o hO he (u_ci99 hq)
          obtain ⟨k0, hk⟩ := u_w_at (cA := cA) g1 g2
          have hk2 := hk
          rw [he] at hk
          obtain ⟨f1, f2⟩ := u_fit_ok ho.1 hft
          have hK2 : ∀ (H1 : Heap) (locs1 : List Loc), va_P D vwCl ((u_w base cA h).set k0 (a, .inr (c', fs.set k v))) H1 → va_D (fun q => base ≤ q) ((u_w base cA h).set k0 (a, .inr (c', fs.set k v))) → va_S (fun q => base ≤ q) s.heap H1 locs1 → W p l e R s m args below meth c H1 locs1 cells slots Q (F0 m (pc + 3) ls r) := by
            intro H1 locs1 q1 _ q3
            refine K H1 locs1 ⟨?_, q3, e0, e1, e2, u_out_up hO ⟨g1, g2⟩⟩
            have := u_w_set (e := .inr (c', fs.set k v)) hk2
            rw [← this]
            exact q1
          rcases hfin with hf | ⟨hf1, hf2⟩
          · exact ⟨va_put hx hb hts (u_inw _ q hq) (u_tyF c') (u_tyk c' q hq) (u_nm c' q hq) hown hK hP (u_w_D base cA h) hS k0 hk hq k hfq.1 (hts _ (u_tm hfq.2)) (fun _ h9 => h9) hf (u_tyk c' q hq k hfq.1) f1 f2 hkl hd hK2, rfl⟩
          · cases hfin2 : (q.2.1 k).2.2.2 with
            | false => exact ⟨va_put hx hb hts (u_inw _ q hq) (u_tyF c') (u_tyk c' q hq) (u_nm c' q hq) hown hK hP (u_w_D base cA h) hS k0 hk hq k hfq.1 (hts _ (u_tm hfq.2)) (fun _ h9 => h9) hfin2 (u_tyk c' q hq k hfq.1) f1 f2 hkl hd hK2, rfl⟩
            | true => exact ⟨va_putF hx hb hts (u_inw _ q hq) (u_tyF c') (u_tyk c' q hq) (u_nm c' q hq) hown hK hP (u_w_D base cA h) hS k0 hk hq k hfq.1 (hts _ (u_tm hfq.2)) (fun _ h9 => h9) hfin2 (hin hf1) hf2 (u_tyk c' q hq k hfq.1) f1 f2 hkl hd hK2, rfl⟩
        · cases ev
      · cases ev
    · cases hst
  · cases hst
end Sim2
