/-! ===== constructors as functions ===== -/
/-- an object that was raw is one of its class; an answer that may be null -/
abbrev WX (a0 c : Nat) (d : Ad) (w : Wd) (e : Ad) (h : UH) : Prop := HW w e h ∧ Adw a0 d e ∧ aK e a0 = (0, c, 0)
abbrev RX (d : Ad) (v : Option Nat) (c : Nat) (w : Wd) (e : Ad) (h : UH) : Prop := (HW w e h ∧ Adx d e) ∧ ∀ q, v = some q → aK e q = (0, c, 0)
theorem ox_o (d : Ad) (c a X : Nat) (l : List (Option Nat)) : aX (own d c a X l) = aX d := rfl
theorem ox_f (d : Ad) (a : Nat) (fs : List Value) : aX (adf d a fs) = aX d := rfl
theorem ox_z (d : Ad) (t n : Nat) : aX (adz d t n) = aX d + 1 := rfl
theorem ox_n (d : Ad) (t n : Nat) : aX (adn d t n) = aX d + 1 := rfl
theorem ox_r (d : Ad) (c : Nat) : aX (adr d c) = aX d + 1 := rfl
theorem os_o (d : Ad) (c a X : Nat) (l : List (Option Nat)) : aS (own d c a X l) = aS d := rfl
theorem os_f (d : Ad) (a : Nat) (fs : List Value) : aS (adf d a fs) = aS d := rfl
theorem os_z (d : Ad) (t n : Nat) : aS (adz d t n) = aS d + n := rfl
theorem os_n (d : Ad) (t n : Nat) : aS (adn d t n) = aS d + n := rfl
theorem os_r (d : Ad) (c : Nat) : aS (adr d c) = aS d + (u_def c).length := rfl
def nC_0 (c0 : Cl) (a0 a1 : Nat) : Cl := (sR (zat c0 a0) 0 a0 a1)
def nD_0 (d : Ad) (a0 a1 : Nat) : Ad := own (adf (d) a0 [.ref a1, .int 0, .int 0, .int 0, .int 0, .int 0, .int 0, .int 0, .int 0, .long 0, .int 0, .int 0]) 0 a0 (aX d) []
def F_0 (c0 : Cl) (d : Ad) (a0 a1 : Nat) : Option (Cl × Ad) := some (nC_0 c0 a0 a1, nD_0 d a0 a1)
set_option maxRecDepth 100000 in
set_option maxHeartbeats 4000000 in
theorem w_0 {D : Nat} {c0 c1 c2 c3 c4 c5 c6 c7 c8 c9 c10 c11 c12 c13 : Cl} {d : Ad} {h : UH} {a0 a1 : Nat} {r : Cl × Ad} (hD : 1 ≤ D) (hW : HW (mkw c0 c1 c2 c3 c4 c5 c6 c7 c8 c9 c10 c11 c12 c13) d h) (ha0 : aK d a0 = (3, 0, 0)) (hf : aF d a0 = u_def 0) (ha1 : aK d a1 = (0, 6, 0)) (hF : F_0 c0 d a0 a1 = some r) : ∃ q, EX D 0 [.ref a0, .ref a1] h q ∧ q.1 = none ∧ WX a0 0 d (mkw r.1 c1 c2 c3 c4 c5 c6 c7 c8 c9 c10 c11 c12 c13) r.2 q.2 := by
  obtain ⟨q, h1, h2, h3, h4⟩ := e_0 hD hW ha0 hf ha1
  unfold F_0 at hF
  obtain rfl := Option.some.inj hF
  refine ⟨q, h1, h2, h3, h4, ?_⟩
  show aK (nD_0 d a0 a1) a0 = _
  unfold nD_0
  rw [own_K, if_pos rfl]
theorem nD_0_x (d : Ad) (a0 a1 : Nat) : aX (nD_0 d a0 a1) = aX d + 0 := by unfold nD_0; simp only [ox_o, ox_f, ox_z, ox_n, Nat.add_zero]
theorem nD_0_s (d : Ad) (a0 a1 : Nat) : aS (nD_0 d a0 a1) = aS d + 0 := by unfold nD_0; simp only [os_o, os_f, os_z, os_n, Nat.add_zero]
def nC_1 (c1 : Cl) (a0 : Nat) : Cl := (sA (sI (zat c1 a0) 4 a0 3) 10 a0 (filf 6 99 (cA (sI (zat c1 a0) 4 a0 3) 10 a0)))
def nD_1 (d : Ad) (a0 : Nat) : Ad := own (adf (adz (adf (adz (adf (adz (adf (adz (adf (adz (adf (adz (adf (adz (adf (adz (adf (d) a0 [.int 0, .int 0, .int 0, .int 0, .int 3, .null, .null, .null, .null, .null, .null, .null, .null]) 1 10) a0 [.int 0, .int 0, .int 0, .int 0, .int 3, .ref (aX d + 0), .null, .null, .null, .null, .null, .null, .null]) 1 10) a0 [.int 0, .int 0, .int 0, .int 0, .int 3, .ref (aX d + 0), .ref (aX d + 1), .null, .null, .null, .null, .null, .null]) 1 6) a0 [.int 0, .int 0, .int 0, .int 0, .int 3, .ref (aX d + 0), .ref (aX d + 1), .ref (aX d + 2), .null, .null, .null, .null, .null]) 1 6) a0 [.int 0, .int 0, .int 0, .int 0, .int 3, .ref (aX d + 0), .ref (aX d + 1), .ref (aX d + 2), .ref (aX d + 3), .null, .null, .null, .null]) 1 6) a0 [.int 0, .int 0, .int 0, .int 0, .int 3, .ref (aX d + 0), .ref (aX d + 1), .ref (aX d + 2), .ref (aX d + 3), .ref (aX d + 4), .null, .null, .null]) 1 6) a0 [.int 0, .int 0, .int 0, .int 0, .int 3, .ref (aX d + 0), .ref (aX d + 1), .ref (aX d + 2), .ref (aX d + 3), .ref (aX d + 4), .ref (aX d + 5), .null, .null]) 1 6) a0 [.int 0, .int 0, .int 0, .int 0, .int 3, .ref (aX d + 0), .ref (aX d + 1), .ref (aX d + 2), .ref (aX d + 3), .ref (aX d + 4), .ref (aX d + 5), .ref (aX d + 6), .null]) 1 6) a0 [.int 0, .int 0, .int 0, .int 0, .int 3, .ref (aX d + 0), .ref (aX d + 1), .ref (aX d + 2), .ref (aX d + 3), .ref (aX d + 4), .ref (aX d + 5), .ref (aX d + 6), .ref (aX d + 7)]) 1 a0 (aX d) [some 5, some 6, some 7, some 8, some 9, some 10, some 11, some 12]
def F_9 (c1 : Cl) (d : Ad) (a0 : Nat) : Option (Cl × Ad) := some (nC_1 c1 a0, nD_1 d a0)
set_option maxRecDepth 100000 in
set_option maxHeartbeats 4000000 in
theorem w_9 {D : Nat} {c0 c1 c2 c3 c4 c5 c6 c7 c8 c9 c10 c11 c12 c13 : Cl} {d : Ad} {h : UH} {a0 : Nat} {r : Cl × Ad} (hD : 2 ≤ D) (hW : HW (mkw c0 c1 c2 c3 c4 c5 c6 c7 c8 c9 c10 c11 c12 c13) d h) (ha0 : aK d a0 = (3, 1, 0)) (hf : aF d a0 = u_def 1) (hF : F_9 c1 d a0 = some r) : ∃ q, EX D 9 [.ref a0] h q ∧ q.1 = none ∧ WX a0 1 d (mkw c0 r.1 c2 c3 c4 c5 c6 c7 c8 c9 c10 c11 c12 c13) r.2 q.2 := by
  obtain ⟨q, h1, h2, h3, h4⟩ := e_9 hD hW ha0 hf
  unfold F_9 at hF
  obtain rfl := Option.some.inj hF
  refine ⟨q, h1, h2, h3, h4, ?_⟩
  show aK (nD_1 d a0) a0 = _
  unfold nD_1
  rw [own_K, if_pos rfl]
theorem nD_1_x (d : Ad) (a0 : Nat) : aX (nD_1 d a0) = aX d + 8 := by unfold nD_1; simp only [ox_o, ox_f, ox_z, ox_n, Nat.add_zero]
theorem nD_1_s (d : Ad) (a0 : Nat) : aS (nD_1 d a0) = aS d + 56 := by unfold nD_1; simp only [os_o, os_f, os_z, os_n, Nat.add_zero]
def nC_4 (c4 : Cl) (a0 a1 a2 a3 : Nat) : Cl := (sR (sR (sR (zat c4 a0) 0 a0 a1) 1 a0 a2) 2 a0 a3)
def nD_4 (d : Ad) (a0 a1 a2 a3 : Nat) : Ad := own (adf (adf (adf (adf (adz (d) 2 60) a0 [.null, .null, .null, .ref (aX d + 0)]) a0 [.ref a1, .null, .null, .ref (aX d + 0)]) a0 [.ref a1, .ref a2, .null, .ref (aX d + 0)]) a0 [.ref a1, .ref a2, .ref a3, .ref (aX d + 0)]) 4 a0 (aX d) [some 3]
def F_36 (c4 : Cl) (d : Ad) (a0 a1 a2 a3 : Nat) : Option (Cl × Ad) := some (nC_4 c4 a0 a1 a2 a3, nD_4 d a0 a1 a2 a3)
set_option maxRecDepth 100000 in
set_option maxHeartbeats 4000000 in
theorem w_36 {D : Nat} {c0 c1 c2 c3 c4 c5 c6 c7 c8 c9 c10 c11 c12 c13 : Cl} {d : Ad} {h : UH} {a0 a1 a2 a3 : Nat} {r : Cl × Ad} (hD : 1 ≤ D) (hW : HW (mkw c0 c1 c2 c3 c4 c5 c6 c7 c8 c9 c10 c11 c12 c13) d h) (ha0 : aK d a0 = (3, 4, 0)) (hf : aF d a0 = u_def 4) (ha1 : aK d a1 = (2, 1, 0)) (ha2 : aK d a2 = (2, 1, 0)) (ha3 : aK d a3 = (2, 1, 0)) (hF : F_36 c4 d a0 a1 a2 a3 = some r) : ∃ q, EX D 36 [.ref a0, .ref a1, .ref a2, .ref a3] h q ∧ q.1 = none ∧ WX a0 4 d (mkw c0 c1 c2 c3 r.1 c5 c6 c7 c8 c9 c10 c11 c12 c13) r.2 q.2 := by
  obtain ⟨q, h1, h2, h3, h4⟩ := e_36 hD hW ha0 hf ha1 ha2 ha3
  unfold F_36 at hF
  obtain rfl := Option.some.inj hF
  refine ⟨q, h1, h2, h3, h4, ?_⟩
  show aK (nD_4 d a0 a1 a2 a3) a0 = _
  unfold nD_4
  rw [own_K, if_pos rfl]
theorem nD_4_x (d : Ad) (a0 a1 a2 a3 : Nat) : aX (nD_4 d a0 a1 a2 a3) = aX d + 1 := by unfold nD_4; simp only [ox_o, ox_f, ox_z, ox_n, Nat.add_zero]
theorem nD_4_s (d : Ad) (a0 a1 a2 a3 : Nat) : aS (nD_4 d a0 a1 a2 a3) = aS d + 60 := by unfold nD_4; simp only [os_o, os_f, os_z, os_n, Nat.add_zero]
def nC_6 (c6 : Cl) (d : Ad) (a0 : Nat) : Cl := (sR (sR (sR (sR (zat c6 a0) 12 a0 (aX d + 8)) 13 a0 (aX d + 9)) 14 a0 (aX d + 10)) 15 a0 (aX d + 11))
def nC13_6 (c13 : Cl) (d : Ad) : Cl := (sA (sA (sB (sB c13 0 (aX d + 8) (fun _ => 0)) 0 (aX d + 9) (fun _ => 0)) 0 (aX d + 10) (fun _ => 0)) 0 (aX d + 11) (fun _ => 0))
def nD_6 (d : Ad) (a0 : Nat) : Ad := own (adf (adn (adf (adn (adf (adn (adf (adn (adf (adz (adf (adz (adf (adz (adf (adz (adf (adz (adf (adz (adf (adz (adf (adz (d) 1 6) a0 [.int 0, .int 0, .int 0, .int 0, .ref (aX d + 0), .null, .null, .null, .null, .null, .null, .null, .null, .null, .null, .null]) 1 6) a0 [.int 0, .int 0, .int 0, .int 0, .ref (aX d + 0), .ref (aX d + 1), .null, .null, .null, .null, .null, .null, .null, .null, .null, .null]) 1 6) a0 [.int 0, .int 0, .int 0, .int 0, .ref (aX d + 0), .ref (aX d + 1), .ref (aX d + 2), .null, .null, .null, .null, .null, .null, .null, .null, .null]) 1 6) a0 [.int 0, .int 0, .int 0, .int 0, .ref (aX d + 0), .ref (aX d + 1), .ref (aX d + 2), .ref (aX d + 3), .null, .null, .null, .null, .null, .null, .null, .null]) 1 6) a0 [.int 0, .int 0, .int 0, .int 0, .ref (aX d + 0), .ref (aX d + 1), .ref (aX d + 2), .ref (aX d + 3), .ref (aX d + 4), .null, .null, .null, .null, .null, .null, .null]) 2 6) a0 [.int 0, .int 0, .int 0, .int 0, .ref (aX d + 0), .ref (aX d + 1), .ref (aX d + 2), .ref (aX d + 3), .ref (aX d + 4), .ref (aX d + 5), .null, .null, .null, .null, .null, .null]) 1 6) a0 [.int 0, .int 0, .int 0, .int 0, .ref (aX d + 0), .ref (aX d + 1), .ref (aX d + 2), .ref (aX d + 3), .ref (aX d + 4), .ref (aX d + 5), .ref (aX d + 6), .null, .null, .null, .null, .null]) 1 6) a0 [.int 0, .int 0, .int 0, .int 0, .ref (aX d + 0), .ref (aX d + 1), .ref (aX d + 2), .ref (aX d + 3), .ref (aX d + 4), .ref (aX d + 5), .ref (aX d + 6), .ref (aX d + 7), .null, .null, .null, .null]) 2 0) a0 [.int 0, .int 0, .int 0, .int 0, .ref (aX d + 0), .ref (aX d + 1), .ref (aX d + 2), .ref (aX d + 3), .ref (aX d + 4), .ref (aX d + 5), .ref (aX d + 6), .ref (aX d + 7), .ref (aX d + 8), .null, .null, .null]) 2 0) a0 [.int 0, .int 0, .int 0, .int 0, .ref (aX d + 0), .ref (aX d + 1), .ref (aX d + 2), .ref (aX d + 3), .ref (aX d + 4), .ref (aX d + 5), .ref (aX d + 6), .ref (aX d + 7), .ref (aX d + 8), .ref (aX d + 9), .null, .null]) 1 0) a0 [.int 0, .int 0, .int 0, .int 0, .ref (aX d + 0), .ref (aX d + 1), .ref (aX d + 2), .ref (aX d + 3), .ref (aX d + 4), .ref (aX d + 5), .ref (aX d + 6), .ref (aX d + 7), .ref (aX d + 8), .ref (aX d + 9), .ref (aX d + 10), .null]) 1 0) a0 [.int 0, .int 0, .int 0, .int 0, .ref (aX d + 0), .ref (aX d + 1), .ref (aX d + 2), .ref (aX d + 3), .ref (aX d + 4), .ref (aX d + 5), .ref (aX d + 6), .ref (aX d + 7), .ref (aX d + 8), .ref (aX d + 9), .ref (aX d + 10), .ref (aX d + 11)]) 6 a0 (aX d) [some 4, some 5, some 6, some 7, some 8, some 9, some 10, some 11, none, none, none, none]
def F_50 (c6 c13 : Cl) (d : Ad) (a0 : Nat) : Option (Cl × Cl × Ad) := some (nC_6 c6 d a0, nC13_6 c13 d, nD_6 d a0)
set_option maxRecDepth 100000 in
set_option maxHeartbeats 4000000 in
theorem w_50 {D : Nat} {c0 c1 c2 c3 c4 c5 c6 c7 c8 c9 c10 c11 c12 c13 : Cl} {d : Ad} {h : UH} {a0 : Nat} {r : Cl × Cl × Ad} (hD : 1 ≤ D) (hW : HW (mkw c0 c1 c2 c3 c4 c5 c6 c7 c8 c9 c10 c11 c12 c13) d h) (ha0 : aK d a0 = (3, 6, 0)) (hf : aF d a0 = u_def 6) (hF : F_50 c6 c13 d a0 = some r) : ∃ q, EX D 50 [.ref a0] h q ∧ q.1 = none ∧ WX a0 6 d (mkw c0 c1 c2 c3 c4 c5 r.1 c7 c8 c9 c10 c11 c12 r.2.1) r.2.2 q.2 := by
  obtain ⟨q, h1, h2, h3, h4, -⟩ := e_50 hD hW ha0 hf
  unfold F_50 at hF
  obtain rfl := Option.some.inj hF
  refine ⟨q, h1, h2, h3, h4, ?_⟩
  show aK (nD_6 d a0) a0 = _
  unfold nD_6
  rw [own_K, if_pos rfl]
theorem nD_6_x (d : Ad) (a0 : Nat) : aX (nD_6 d a0) = aX d + 12 := by unfold nD_6; simp only [ox_o, ox_f, ox_z, ox_n, Nat.add_zero]
theorem nD_6_s (d : Ad) (a0 : Nat) : aS (nD_6 d a0) = aS d + 48 := by unfold nD_6; simp only [os_o, os_f, os_z, os_n, Nat.add_zero]
theorem fr_50 {c0 c1 c2 c3 c4 c5 c6 c7 c8 c9 c10 c11 c12 c13 : Cl} {d : Ad} {h : UH} {a0 : Nat} (hW : HW (mkw c0 c1 c2 c3 c4 c5 c6 c7 c8 c9 c10 c11 c12 c13) d h) (ha0 : aK d a0 = (3, 6, 0)) (hf : aF d a0 = u_def 6) : (aK (nD_6 d a0) (aX d + 8) = (2, 2, 0) ∧ aN (nD_6 d a0) (aX d + 8) = 0) ∧ (aK (nD_6 d a0) (aX d + 9) = (2, 2, 0) ∧ aN (nD_6 d a0) (aX d + 9) = 0) ∧ (aK (nD_6 d a0) (aX d + 10) = (2, 1, 0) ∧ aN (nD_6 d a0) (aX d + 10) = 0) ∧ (aK (nD_6 d a0) (aX d + 11) = (2, 1, 0) ∧ aN (nD_6 d a0) (aX d + 11) = 0) := by
  obtain ⟨q, -, -, -, -, h5⟩ := e_50 (D := 1) (Nat.le_refl _) hW ha0 hf
  exact h5
def nC_7 (c7 : Cl) (a0 a1 : Nat) : Cl := (sR (zat c7 a0) 0 a0 a1)
def nD_7 (d : Ad) (a0 a1 : Nat) : Ad := own (adf (adf (adz (adf (adz (d) 1 6) a0 [.null, .int 0, .long 0, .int 0, .int 0, .int 0, .ref (aX d + 0), .null, .int 0, .int 0, .int 0, .int 0, .int 0]) 1 150) a0 [.null, .int 0, .long 0, .int 0, .int 0, .int 0, .ref (aX d + 0), .ref (aX d + 1), .int 0, .int 0, .int 0, .int 0, .int 0]) a0 [.ref a1, .int 0, .long 0, .int 0, .int 0, .int 0, .ref (aX d + 0), .ref (aX d + 1), .int 0, .int 0, .int 0, .int 0, .int 0]) 7 a0 (aX d) [some 6, some 7]
def F_62 (c7 : Cl) (d : Ad) (a0 a1 : Nat) : Option (Cl × Ad) := some (nC_7 c7 a0 a1, nD_7 d a0 a1)
set_option maxRecDepth 100000 in
set_option maxHeartbeats 4000000 in
theorem w_62 {D : Nat} {c0 c1 c2 c3 c4 c5 c6 c7 c8 c9 c10 c11 c12 c13 : Cl} {d : Ad} {h : UH} {a0 a1 : Nat} {r : Cl × Ad} (hD : 1 ≤ D) (hW : HW (mkw c0 c1 c2 c3 c4 c5 c6 c7 c8 c9 c10 c11 c12 c13) d h) (ha0 : aK d a0 = (3, 7, 0)) (hf : aF d a0 = u_def 7) (ha1 : aK d a1 = (0, 6, 0)) (hF : F_62 c7 d a0 a1 = some r) : ∃ q, EX D 62 [.ref a0, .ref a1] h q ∧ q.1 = none ∧ WX a0 7 d (mkw c0 c1 c2 c3 c4 c5 c6 r.1 c8 c9 c10 c11 c12 c13) r.2 q.2 := by
  obtain ⟨q, h1, h2, h3, h4⟩ := e_62 hD hW ha0 hf ha1
  unfold F_62 at hF
  obtain rfl := Option.some.inj hF
  refine ⟨q, h1, h2, h3, h4, ?_⟩
  show aK (nD_7 d a0 a1) a0 = _
  unfold nD_7
  rw [own_K, if_pos rfl]
theorem nD_7_x (d : Ad) (a0 a1 : Nat) : aX (nD_7 d a0 a1) = aX d + 2 := by unfold nD_7; simp only [ox_o, ox_f, ox_z, ox_n, Nat.add_zero]
theorem nD_7_s (d : Ad) (a0 a1 : Nat) : aS (nD_7 d a0 a1) = aS d + 156 := by unfold nD_7; simp only [os_o, os_f, os_z, os_n, Nat.add_zero]
def nC_8 (c8 : Cl) (a0 a1 : Nat) : Cl := (sR (zat c8 a0) 0 a0 a1)
def nD_8 (d : Ad) (a0 a1 : Nat) : Ad := own (adf (adf (adz (adf (adz (adf (adz (adf (adz (adf (adz (adf (adz (adf (adz (adf (adz (adf (adz (adf (adz (d) 1 6) a0 [.null, .int 0, .int 0, .int 0, .ref (aX d + 0), .null, .null, .null, .null, .null, .null, .null, .null, .null]) 1 6) a0 [.null, .int 0, .int 0, .int 0, .ref (aX d + 0), .ref (aX d + 1), .null, .null, .null, .null, .null, .null, .null, .null]) 1 6) a0 [.null, .int 0, .int 0, .int 0, .ref (aX d + 0), .ref (aX d + 1), .ref (aX d + 2), .null, .null, .null, .null, .null, .null, .null]) 1 6) a0 [.null, .int 0, .int 0, .int 0, .ref (aX d + 0), .ref (aX d + 1), .ref (aX d + 2), .ref (aX d + 3), .null, .null, .null, .null, .null, .null]) 1 6) a0 [.null, .int 0, .int 0, .int 0, .ref (aX d + 0), .ref (aX d + 1), .ref (aX d + 2), .ref (aX d + 3), .ref (aX d + 4), .null, .null, .null, .null, .null]) 1 6) a0 [.null, .int 0, .int 0, .int 0, .ref (aX d + 0), .ref (aX d + 1), .ref (aX d + 2), .ref (aX d + 3), .ref (aX d + 4), .ref (aX d + 5), .null, .null, .null, .null]) 1 6) a0 [.null, .int 0, .int 0, .int 0, .ref (aX d + 0), .ref (aX d + 1), .ref (aX d + 2), .ref (aX d + 3), .ref (aX d + 4), .ref (aX d + 5), .ref (aX d + 6), .null, .null, .null]) 1 6) a0 [.null, .int 0, .int 0, .int 0, .ref (aX d + 0), .ref (aX d + 1), .ref (aX d + 2), .ref (aX d + 3), .ref (aX d + 4), .ref (aX d + 5), .ref (aX d + 6), .ref (aX d + 7), .null, .null]) 1 6) a0 [.null, .int 0, .int 0, .int 0, .ref (aX d + 0), .ref (aX d + 1), .ref (aX d + 2), .ref (aX d + 3), .ref (aX d + 4), .ref (aX d + 5), .ref (aX d + 6), .ref (aX d + 7), .ref (aX d + 8), .null]) 1 60) a0 [.null, .int 0, .int 0, .int 0, .ref (aX d + 0), .ref (aX d + 1), .ref (aX d + 2), .ref (aX d + 3), .ref (aX d + 4), .ref (aX d + 5), .ref (aX d + 6), .ref (aX d + 7), .ref (aX d + 8), .ref (aX d + 9)]) a0 [.ref a1, .int 0, .int 0, .int 0, .ref (aX d + 0), .ref (aX d + 1), .ref (aX d + 2), .ref (aX d + 3), .ref (aX d + 4), .ref (aX d + 5), .ref (aX d + 6), .ref (aX d + 7), .ref (aX d + 8), .ref (aX d + 9)]) 8 a0 (aX d) [some 4, some 5, some 6, some 7, some 8, some 9, some 10, some 11, some 12, some 13]
def F_80 (c8 : Cl) (d : Ad) (a0 a1 : Nat) : Option (Cl × Ad) := some (nC_8 c8 a0 a1, nD_8 d a0 a1)
set_option maxRecDepth 100000 in
set_option maxHeartbeats 4000000 in
theorem w_80 {D : Nat} {c0 c1 c2 c3 c4 c5 c6 c7 c8 c9 c10 c11 c12 c13 : Cl} {d : Ad} {h : UH} {a0 a1 : Nat} {r : Cl × Ad} (hD : 1 ≤ D) (hW : HW (mkw c0 c1 c2 c3 c4 c5 c6 c7 c8 c9 c10 c11 c12 c13) d h) (ha0 : aK d a0 = (3, 8, 0)) (hf : aF d a0 = u_def 8) (ha1 : aK d a1 = (0, 1, 0)) (hF : F_80 c8 d a0 a1 = some r) : ∃ q, EX D 80 [.ref a0, .ref a1] h q ∧ q.1 = none ∧ WX a0 8 d (mkw c0 c1 c2 c3 c4 c5 c6 c7 r.1 c9 c10 c11 c12 c13) r.2 q.2 := by
  obtain ⟨q, h1, h2, h3, h4⟩ := e_80 hD hW ha0 hf ha1
  unfold F_80 at hF
  obtain rfl := Option.some.inj hF
  refine ⟨q, h1, h2, h3, h4, ?_⟩
  show aK (nD_8 d a0 a1) a0 = _
  unfold nD_8
  rw [own_K, if_pos rfl]
theorem nD_8_x (d : Ad) (a0 a1 : Nat) : aX (nD_8 d a0 a1) = aX d + 10 := by unfold nD_8; simp only [ox_o, ox_f, ox_z, ox_n, Nat.add_zero]
theorem nD_8_s (d : Ad) (a0 a1 : Nat) : aS (nD_8 d a0 a1) = aS d + 114 := by unfold nD_8; simp only [os_o, os_f, os_z, os_n, Nat.add_zero]
def nC_9 (c9 : Cl) (d : Ad) (a0 a1 : Nat) : Cl := (sR (sR (sR (zat c9 a0) 5 a0 (aX d + 3)) 6 a0 (aX d + 4)) 0 a0 a1)
def nC13_9 (c13 : Cl) (d : Ad) : Cl := (sB (sB c13 0 (aX d + 3) (fun _ => 0)) 0 (aX d + 4) (fun _ => 0))
def nD_9 (d : Ad) (a0 a1 : Nat) : Ad := own (adf (adf (adz (adf (adz (adf (adn (adf (adn (adf (adz (adf (adz (adf (adz (d) 1 36) a0 [.null, .int 0, .ref (aX d + 0), .null, .null, .null, .null, .null, .null]) 1 36) a0 [.null, .int 0, .ref (aX d + 0), .ref (aX d + 1), .null, .null, .null, .null, .null]) 1 36) a0 [.null, .int 0, .ref (aX d + 0), .ref (aX d + 1), .ref (aX d + 2), .null, .null, .null, .null]) 2 64) a0 [.null, .int 0, .ref (aX d + 0), .ref (aX d + 1), .ref (aX d + 2), .ref (aX d + 3), .null, .null, .null]) 2 64) a0 [.null, .int 0, .ref (aX d + 0), .ref (aX d + 1), .ref (aX d + 2), .ref (aX d + 3), .ref (aX d + 4), .null, .null]) 1 6) a0 [.null, .int 0, .ref (aX d + 0), .ref (aX d + 1), .ref (aX d + 2), .ref (aX d + 3), .ref (aX d + 4), .ref (aX d + 5), .null]) 1 6) a0 [.null, .int 0, .ref (aX d + 0), .ref (aX d + 1), .ref (aX d + 2), .ref (aX d + 3), .ref (aX d + 4), .ref (aX d + 5), .ref (aX d + 6)]) a0 [.ref a1, .int 0, .ref (aX d + 0), .ref (aX d + 1), .ref (aX d + 2), .ref (aX d + 3), .ref (aX d + 4), .ref (aX d + 5), .ref (aX d + 6)]) 9 a0 (aX d) [some 2, some 3, some 4, none, none, some 7, some 8]
def F_107 (c9 c13 : Cl) (d : Ad) (a0 a1 : Nat) : Option (Cl × Cl × Ad) := some (nC_9 c9 d a0 a1, nC13_9 c13 d, nD_9 d a0 a1)
set_option maxRecDepth 100000 in
set_option maxHeartbeats 4000000 in
theorem w_107 {D : Nat} {c0 c1 c2 c3 c4 c5 c6 c7 c8 c9 c10 c11 c12 c13 : Cl} {d : Ad} {h : UH} {a0 a1 : Nat} {r : Cl × Cl × Ad} (hD : 1 ≤ D) (hW : HW (mkw c0 c1 c2 c3 c4 c5 c6 c7 c8 c9 c10 c11 c12 c13) d h) (ha0 : aK d a0 = (3, 9, 0)) (hf : aF d a0 = u_def 9) (ha1 : aK d a1 = (0, 6, 0)) (hF : F_107 c9 c13 d a0 a1 = some r) : ∃ q, EX D 107 [.ref a0, .ref a1] h q ∧ q.1 = none ∧ WX a0 9 d (mkw c0 c1 c2 c3 c4 c5 c6 c7 c8 r.1 c10 c11 c12 r.2.1) r.2.2 q.2 := by
  obtain ⟨q, h1, h2, h3, h4, -⟩ := e_107 hD hW ha0 hf ha1
  unfold F_107 at hF
  obtain rfl := Option.some.inj hF
  refine ⟨q, h1, h2, h3, h4, ?_⟩
  show aK (nD_9 d a0 a1) a0 = _
  unfold nD_9
  rw [own_K, if_pos rfl]
theorem nD_9_x (d : Ad) (a0 a1 : Nat) : aX (nD_9 d a0 a1) = aX d + 7 := by unfold nD_9; simp only [ox_o, ox_f, ox_z, ox_n, Nat.add_zero]
theorem nD_9_s (d : Ad) (a0 a1 : Nat) : aS (nD_9 d a0 a1) = aS d + 248 := by unfold nD_9; simp only [os_o, os_f, os_z, os_n, Nat.add_zero]
theorem fr_107 {c0 c1 c2 c3 c4 c5 c6 c7 c8 c9 c10 c11 c12 c13 : Cl} {d : Ad} {h : UH} {a0 a1 : Nat} (hW : HW (mkw c0 c1 c2 c3 c4 c5 c6 c7 c8 c9 c10 c11 c12 c13) d h) (ha0 : aK d a0 = (3, 9, 0)) (hf : aF d a0 = u_def 9) (ha1 : aK d a1 = (0, 6, 0)) : (aK (nD_9 d a0 a1) (aX d + 3) = (2, 2, 0) ∧ aN (nD_9 d a0 a1) (aX d + 3) = 64) ∧ (aK (nD_9 d a0 a1) (aX d + 4) = (2, 2, 0) ∧ aN (nD_9 d a0 a1) (aX d + 4) = 64) := by
  obtain ⟨q, -, -, -, -, h5⟩ := e_107 (D := 1) (Nat.le_refl _) hW ha0 hf ha1
  exact h5
