/-! HeadCounts and its readers become objects at once -/
def xC_11 (c11 : Cl) (a X : Nat) : Cl := (sR (sR (sR (sR (sR (sR (sR (sR (sR (zat c11 a) 2 a (X + 1)) 3 a (X + 5)) 4 a (X + 6)) 7 a (X + 11)) 9 a (X + 257)) 11 a (X + 268)) 12 a (X + 281)) 13 a (X + 284)) 14 a (X + 285))
def xC_3 (c3 : Cl) (a X : Nat) : Cl := (sR (zat c3 (X + 1)) 0 (X + 1) a)
def xC_2 (c2 : Cl) (a X : Nat) : Cl := (sR (zat c2 (X + 5)) 0 (X + 5) (X + 1))
def xC_5 (c5 : Cl) (a X : Nat) : Cl := (sR (zat c5 (X + 6)) 0 (X + 6) (X + 1))
def ow11 (e : Ad) (a X : Nat) : Ad := (fun b => if b = a then (0, 11, 0) else if b = X + 1 then (0, 3, 0) else if b = X + 5 then (0, 2, 0) else if b = X + 6 then (0, 5, 0) else if b = X then (1, 11, 0) else if b = X + 2 then (1, 3, 2) else if b = X + 3 then (1, 3, 3) else if b = X + 4 then (1, 3, 4) else if b = X + 7 then (1, 5, 1) else if b = X + 8 then (1, 5, 4) else if b = X + 9 then (1, 5, 5) else if b = X + 10 then (1, 11, 5) else if b = X + 256 then (1, 11, 8) else aK e b, fun c k b => if b = a then (if k = 0 then X else if k = 5 then X + 10 else X + 256) else if b = X + 1 then X + k else if b = X + 6 then (if k = 1 then X + 7 else X + k + 4) else aP e c k b, fun b => if b = X then a else if b = X + 2 then X + 1 else if b = X + 3 then X + 1 else if b = X + 4 then X + 1 else if b = X + 7 then X + 6 else if b = X + 8 then X + 6 else if b = X + 9 then X + 6 else if b = X + 10 then a else if b = X + 256 then a else aO e b, e.2.2.2)
theorem arr0 {x : Cl} {t n k a : Nat} (h1 : cA x k a = fun _ => 0) (h2 : cB x k a = fun _ => 0) (h3 : cQ x k a = fun _ => none) : arrc x t n k a = arrc zcl t n 0 0 := by
  unfold arrc; rw [h1, h2, h3]; rfl
theorem ow11_P (e : Ad) (a X c k b : Nat) : aP (ow11 e a X) c k b = if b = a then (if k = 0 then X else if k = 5 then X + 10 else X + 256) else if b = X + 1 then X + k else if b = X + 6 then (if k = 1 then X + 7 else X + k + 4) else aP e c k b := rfl
theorem ow11_K (e : Ad) (a X b : Nat) : aK (ow11 e a X) b = if b = a then (0, 11, 0) else if b = X + 1 then (0, 3, 0) else if b = X + 5 then (0, 2, 0) else if b = X + 6 then (0, 5, 0) else if b = X then (1, 11, 0) else if b = X + 2 then (1, 3, 2) else if b = X + 3 then (1, 3, 3) else if b = X + 4 then (1, 3, 4) else if b = X + 7 then (1, 5, 1) else if b = X + 8 then (1, 5, 4) else if b = X + 9 then (1, 5, 5) else if b = X + 10 then (1, 11, 5) else if b = X + 256 then (1, 11, 8) else aK e b := rfl
theorem ow11_O (e : Ad) (a X b : Nat) : aO (ow11 e a X) b = if b = X then a else if b = X + 2 then X + 1 else if b = X + 3 then X + 1 else if b = X + 4 then X + 1 else if b = X + 7 then X + 6 else if b = X + 8 then X + 6 else if b = X + 9 then X + 6 else if b = X + 10 then a else if b = X + 256 then a else aO e b := rfl
set_option maxRecDepth 100000 in
set_option maxHeartbeats 4000000 in
theorem hw_hc {c0 c1 c2 c3 c4 c5 c6 c7 c8 c9 c10 c11 c12 c13 : Cl} {e : Ad} {h : UH} {a X : Nat} (hlt : a < X) (hW : HW (mkw c0 c1 c2 c3 c4 c5 c6 c7 c8 c9 c10 c11 c12 c13) e h) (k11 : aK e a = (3, 11, 0)) (f11 : aF e a = [.ref X, .int 0, .ref (X + 1), .ref (X + 5), .ref (X + 6), .ref (X + 10), .int 0, .ref (X + 11), .ref (X + 256), .ref (X + 257), .long 0, .ref (X + 268), .ref (X + 281), .ref (X + 284), .ref (X + 285)]) (k3 : aK e (X + 1) = (3, 3, 0)) (f3 : aF e (X + 1) = [.ref X, .int 0, .ref (X + 2), .ref (X + 3), .ref (X + 4), .int 0, .int 0, .int 0]) (k2 : aK e (X + 5) = (3, 2, 0)) (f2 : aF e (X + 5) = [.ref (X + 1), .int 0]) (k5 : aK e (X + 6) = (3, 5, 0)) (f5 : aF e (X + 6) = [.ref (X + 1), .ref (X + 7), .int 0, .int 0, .ref (X + 8), .ref (X + 9)]) (q0 : aK e X = (4, 0, 0)) (n0 : aN e X = 400) (q2 : aK e (X + 2) = (4, 1, 0)) (n2 : aN e (X + 2) = 401) (q3 : aK e (X + 3) = (4, 1, 0)) (n3 : aN e (X + 3) = 401) (q4 : aK e (X + 4) = (4, 1, 0)) (n4 : aN e (X + 4) = 401) (q7 : aK e (X + 7) = (4, 1, 0)) (n7 : aN e (X + 7) = 400) (q8 : aK e (X + 8) = (4, 1, 0)) (n8 : aN e (X + 8) = 12) (q9 : aK e (X + 9) = (4, 1, 0)) (n9 : aN e (X + 9) = 12) (q10 : aK e (X + 10) = (4, 4, 0)) (n10 : aN e (X + 10) = 6) (q256 : aK e (X + 256) = (4, 6, 0)) (n256 : aN e (X + 256) = 4) (p11 : aK e (X + 11) = (0, 10, 0)) (p257 : aK e (X + 257) = (0, 8, 0)) (p268 : aK e (X + 268) = (0, 6, 0)) (p281 : aK e (X + 281) = (0, 7, 0)) (p284 : aK e (X + 284) = (0, 0, 0)) (p285 : aK e (X + 285) = (0, 9, 0)) : HW (mkw c0 c1 (xC_2 c2 a X) (xC_3 c3 a X) c4 (xC_5 c5 a X) c6 c7 c8 c9 c10 (xC_11 c11 a X) c12 c13) (ow11 e a X) h := by
  have K11 : aK (ow11 e a X) a = (0, 11, 0) := by rw [ow11_K, if_pos rfl]
  have K3 : aK (ow11 e a X) (X + 1) = (0, 3, 0) := by rw [ow11_K, if_neg (show ¬ X + 1 = a from (Nat.ne_of_gt (Nat.lt_of_lt_of_le hlt (Nat.le_add_right _ _)))), if_pos rfl]
  have K2 : aK (ow11 e a X) (X + 5) = (0, 2, 0) := by rw [ow11_K, if_neg (show ¬ X + 5 = a from (Nat.ne_of_gt (Nat.lt_of_lt_of_le hlt (Nat.le_add_right _ _)))), if_neg (show ¬ X + 5 = X + 1 from (fun q => absurd (Nat.add_left_cancel q) (by decide))), if_pos rfl]
  have K5 : aK (ow11 e a X) (X + 6) = (0, 5, 0) := by rw [ow11_K, if_neg (show ¬ X + 6 = a from (Nat.ne_of_gt (Nat.lt_of_lt_of_le hlt (Nat.le_add_right _ _)))), if_neg (show ¬ X + 6 = X + 1 from (fun q => absurd (Nat.add_left_cancel q) (by decide))), if_neg (show ¬ X + 6 = X + 5 from (fun q => absurd (Nat.add_left_cancel q) (by decide))), if_pos rfl]
  have Q0 : aK (ow11 e a X) X = (1, 11, 0) := by rw [ow11_K, if_neg (show ¬ X = a from (Nat.ne_of_gt hlt)), if_neg (show ¬ X = X + 1 from (Nat.ne_of_lt (Nat.lt_add_of_pos_right (k := 1) (by decide)))), if_neg (show ¬ X = X + 5 from (Nat.ne_of_lt (Nat.lt_add_of_pos_right (k := 5) (by decide)))), if_neg (show ¬ X = X + 6 from (Nat.ne_of_lt (Nat.lt_add_of_pos_right (k := 6) (by decide)))), if_pos rfl]
  have O0 : aO (ow11 e a X) X = a := by rw [ow11_O, if_pos rfl]
  have P0 : aP (ow11 e a X) 11 0 a = X := by rw [ow11_P, if_pos rfl, if_pos rfl]
  have Q2 : aK (ow11 e a X) (X + 2) = (1, 3, 2) := by rw [ow11_K, if_neg (show ¬ X + 2 = a from (Nat.ne_of_gt (Nat.lt_of_lt_of_le hlt (Nat.le_add_right _ _)))), if_neg (show ¬ X + 2 = X + 1 from (fun q => absurd (Nat.add_left_cancel q) (by decide))), if_neg (show ¬ X + 2 = X + 5 from (fun q => absurd (Nat.add_left_cancel q) (by decide))), if_neg (show ¬ X + 2 = X + 6 from (fun q => absurd (Nat.add_left_cancel q) (by decide))), if_neg (show ¬ X + 2 = X from (Nat.ne_of_gt (Nat.lt_add_of_pos_right (k := 2) (by decide)))), if_pos rfl]
  have O2 : aO (ow11 e a X) (X + 2) = X + 1 := by rw [ow11_O, if_neg (show ¬ X + 2 = X from (Nat.ne_of_gt (Nat.lt_add_of_pos_right (k := 2) (by decide)))), if_pos rfl]
  have P2 : aP (ow11 e a X) 3 2 (X + 1) = X + 2 := by rw [ow11_P, if_neg (show ¬ X + 1 = a from (Nat.ne_of_gt (Nat.lt_of_lt_of_le hlt (Nat.le_add_right _ _)))), if_pos rfl]
  have Q3 : aK (ow11 e a X) (X + 3) = (1, 3, 3) := by rw [ow11_K, if_neg (show ¬ X + 3 = a from (Nat.ne_of_gt (Nat.lt_of_lt_of_le hlt (Nat.le_add_right _ _)))), if_neg (show ¬ X + 3 = X + 1 from (fun q => absurd (Nat.add_left_cancel q) (by decide))), if_neg (show ¬ X + 3 = X + 5 from (fun q => absurd (Nat.add_left_cancel q) (by decide))), if_neg (show ¬ X + 3 = X + 6 from (fun q => absurd (Nat.add_left_cancel q) (by decide))), if_neg (show ¬ X + 3 = X from (Nat.ne_of_gt (Nat.lt_add_of_pos_right (k := 3) (by decide)))), if_neg (show ¬ X + 3 = X + 2 from (fun q => absurd (Nat.add_left_cancel q) (by decide))), if_pos rfl]
  have O3 : aO (ow11 e a X) (X + 3) = X + 1 := by rw [ow11_O, if_neg (show ¬ X + 3 = X from (Nat.ne_of_gt (Nat.lt_add_of_pos_right (k := 3) (by decide)))), if_neg (show ¬ X + 3 = X + 2 from (fun q => absurd (Nat.add_left_cancel q) (by decide))), if_pos rfl]
  have P3 : aP (ow11 e a X) 3 3 (X + 1) = X + 3 := by rw [ow11_P, if_neg (show ¬ X + 1 = a from (Nat.ne_of_gt (Nat.lt_of_lt_of_le hlt (Nat.le_add_right _ _)))), if_pos rfl]
  have Q4 : aK (ow11 e a X) (X + 4) = (1, 3, 4) := by rw [ow11_K, if_neg (show ¬ X + 4 = a from (Nat.ne_of_gt (Nat.lt_of_lt_of_le hlt (Nat.le_add_right _ _)))), if_neg (show ¬ X + 4 = X + 1 from (fun q => absurd (Nat.add_left_cancel q) (by decide))), if_neg (show ¬ X + 4 = X + 5 from (fun q => absurd (Nat.add_left_cancel q) (by decide))), if_neg (show ¬ X + 4 = X + 6 from (fun q => absurd (Nat.add_left_cancel q) (by decide))), if_neg (show ¬ X + 4 = X from (Nat.ne_of_gt (Nat.lt_add_of_pos_right (k := 4) (by decide)))), if_neg (show ¬ X + 4 = X + 2 from (fun q => absurd (Nat.add_left_cancel q) (by decide))), if_neg (show ¬ X + 4 = X + 3 from (fun q => absurd (Nat.add_left_cancel q) (by decide))), if_pos rfl]
  have O4 : aO (ow11 e a X) (X + 4) = X + 1 := by rw [ow11_O, if_neg (show ¬ X + 4 = X from (Nat.ne_of_gt (Nat.lt_add_of_pos_right (k := 4) (by decide)))), if_neg (show ¬ X + 4 = X + 2 from (fun q => absurd (Nat.add_left_cancel q) (by decide))), if_neg (show ¬ X + 4 = X + 3 from (fun q => absurd (Nat.add_left_cancel q) (by decide))), if_pos rfl]
  have P4 : aP (ow11 e a X) 3 4 (X + 1) = X + 4 := by rw [ow11_P, if_neg (show ¬ X + 1 = a from (Nat.ne_of_gt (Nat.lt_of_lt_of_le hlt (Nat.le_add_right _ _)))), if_pos rfl]
  have Q7 : aK (ow11 e a X) (X + 7) = (1, 5, 1) := by rw [ow11_K, if_neg (show ¬ X + 7 = a from (Nat.ne_of_gt (Nat.lt_of_lt_of_le hlt (Nat.le_add_right _ _)))), if_neg (show ¬ X + 7 = X + 1 from (fun q => absurd (Nat.add_left_cancel q) (by decide))), if_neg (show ¬ X + 7 = X + 5 from (fun q => absurd (Nat.add_left_cancel q) (by decide))), if_neg (show ¬ X + 7 = X + 6 from (fun q => absurd (Nat.add_left_cancel q) (by decide))), if_neg (show ¬ X + 7 = X from (Nat.ne_of_gt (Nat.lt_add_of_pos_right (k := 7) (by decide)))), if_neg (show ¬ X + 7 = X + 2 from (fun q => absurd (Nat.add_left_cancel q) (by decide))), if_neg (show ¬ X + 7 = X + 3 from (fun q => absurd (Nat.add_left_cancel q) (by decide))), if_neg (show ¬ X + 7 = X + 4 from (fun q => absurd (Nat.add_left_cancel q) (by decide))), if_pos rfl]
  have O7 : aO (ow11 e a X) (X + 7) = X + 6 := by rw [ow11_O, if_neg (show ¬ X + 7 = X from (Nat.ne_of_gt (Nat.lt_add_of_pos_right (k := 7) (by decide)))), if_neg (show ¬ X + 7 = X + 2 from (fun q => absurd (Nat.add_left_cancel q) (by decide))), if_neg (show ¬ X + 7 = X + 3 from (fun q => absurd (Nat.add_left_cancel q) (by decide))), if_neg (show ¬ X + 7 = X + 4 from (fun q => absurd (Nat.add_left_cancel q) (by decide))), if_pos rfl]
  have P7 : aP (ow11 e a X) 5 1 (X + 6) = X + 7 := by rw [ow11_P, if_neg (show ¬ X + 6 = a from (Nat.ne_of_gt (Nat.lt_of_lt_of_le hlt (Nat.le_add_right _ _)))), if_neg (show ¬ X + 6 = X + 1 from (fun q => absurd (Nat.add_left_cancel q) (by decide))), if_pos rfl, if_pos rfl]
  have Q8 : aK (ow11 e a X) (X + 8) = (1, 5, 4) := by rw [ow11_K, if_neg (show ¬ X + 8 = a from (Nat.ne_of_gt (Nat.lt_of_lt_of_le hlt (Nat.le_add_right _ _)))), if_neg (show ¬ X + 8 = X + 1 from (fun q => absurd (Nat.add_left_cancel q) (by decide))), if_neg (show ¬ X + 8 = X + 5 from (fun q => absurd (Nat.add_left_cancel q) (by decide))), if_neg (show ¬ X + 8 = X + 6 from (fun q => absurd (Nat.add_left_cancel q) (by decide))), if_neg (show ¬ X + 8 = X from (Nat.ne_of_gt (Nat.lt_add_of_pos_right (k := 8) (by decide)))), if_neg (show ¬ X + 8 = X + 2 from (fun q => absurd (Nat.add_left_cancel q) (by decide))), if_neg (show ¬ X + 8 = X + 3 from (fun q => absurd (Nat.add_left_cancel q) (by decide))), if_neg (show ¬ X + 8 = X + 4 from (fun q => absurd (Nat.add_left_cancel q) (by decide))), if_neg (show ¬ X + 8 = X + 7 from (fun q => absurd (Nat.add_left_cancel q) (by decide))), if_pos rfl]
  have O8 : aO (ow11 e a X) (X + 8) = X + 6 := by rw [ow11_O, if_neg (show ¬ X + 8 = X from (Nat.ne_of_gt (Nat.lt_add_of_pos_right (k := 8) (by decide)))), if_neg (show ¬ X + 8 = X + 2 from (fun q => absurd (Nat.add_left_cancel q) (by decide))), if_neg (show ¬ X + 8 = X + 3 from (fun q => absurd (Nat.add_left_cancel q) (by decide))), if_neg (show ¬ X + 8 = X + 4 from (fun q => absurd (Nat.add_left_cancel q) (by decide))), if_neg (show ¬ X + 8 = X + 7 from (fun q => absurd (Nat.add_left_cancel q) (by decide))), if_pos rfl]
  have P8 : aP (ow11 e a X) 5 4 (X + 6) = X + 8 := by rw [ow11_P, if_neg (show ¬ X + 6 = a from (Nat.ne_of_gt (Nat.lt_of_lt_of_le hlt (Nat.le_add_right _ _)))), if_neg (show ¬ X + 6 = X + 1 from (fun q => absurd (Nat.add_left_cancel q) (by decide))), if_pos rfl, if_neg (by decide)]
  have Q9 : aK (ow11 e a X) (X + 9) = (1, 5, 5) := by rw [ow11_K, if_neg (show ¬ X + 9 = a from (Nat.ne_of_gt (Nat.lt_of_lt_of_le hlt (Nat.le_add_right _ _)))), if_neg (show ¬ X + 9 = X + 1 from (fun q => absurd (Nat.add_left_cancel q) (by decide))), if_neg (show ¬ X + 9 = X + 5 from (fun q => absurd (Nat.add_left_cancel q) (by decide))), if_neg (show ¬ X + 9 = X + 6 from (fun q => absurd (Nat.add_left_cancel q) (by decide))), if_neg (show ¬ X + 9 = X from (Nat.ne_of_gt (Nat.lt_add_of_pos_right (k := 9) (by decide)))), if_neg (show ¬ X + 9 = X + 2 from (fun q => absurd (Nat.add_left_cancel q) (by decide))), if_neg (show ¬ X + 9 = X + 3 from (fun q => absurd (Nat.add_left_cancel q) (by decide))), if_neg (show ¬ X + 9 = X + 4 from (fun q => absurd (Nat.add_left_cancel q) (by decide))), if_neg (show ¬ X + 9 = X + 7 from (fun q => absurd (Nat.add_left_cancel q) (by decide))), if_neg (show ¬ X + 9 = X + 8 from (fun q => absurd (Nat.add_left_cancel q) (by decide))), if_pos rfl]
  have O9 : aO (ow11 e a X) (X + 9) = X + 6 := by rw [ow11_O, if_neg (show ¬ X + 9 = X from (Nat.ne_of_gt (Nat.lt_add_of_pos_right (k := 9) (by decide)))), if_neg (show ¬ X + 9 = X + 2 from (fun q => absurd (Nat.add_left_cancel q) (by decide))), if_neg (show ¬ X + 9 = X + 3 from (fun q => absurd (Nat.add_left_cancel q) (by decide))), if_neg (show ¬ X + 9 = X + 4 from (fun q => absurd (Nat.add_left_cancel q) (by decide))), if_neg (show ¬ X + 9 = X + 7 from (fun q => absurd (Nat.add_left_cancel q) (by decide))), if_neg (show ¬ X + 9 = X + 8 from (fun q => absurd (Nat.add_left_cancel q) (by decide))), if_pos rfl]
  have P9 : aP (ow11 e a X) 5 5 (X + 6) = X + 9 := by rw [ow11_P, if_neg (show ¬ X + 6 = a from (Nat.ne_of_gt (Nat.lt_of_lt_of_le hlt (Nat.le_add_right _ _)))), if_neg (show ¬ X + 6 = X + 1 from (fun q => absurd (Nat.add_left_cancel q) (by decide))), if_pos rfl, if_neg (by decide)]
  have Q10 : aK (ow11 e a X) (X + 10) = (1, 11, 5) := by rw [ow11_K, if_neg (show ¬ X + 10 = a from (Nat.ne_of_gt (Nat.lt_of_lt_of_le hlt (Nat.le_add_right _ _)))), if_neg (show ¬ X + 10 = X + 1 from (fun q => absurd (Nat.add_left_cancel q) (by decide))), if_neg (show ¬ X + 10 = X + 5 from (fun q => absurd (Nat.add_left_cancel q) (by decide))), if_neg (show ¬ X + 10 = X + 6 from (fun q => absurd (Nat.add_left_cancel q) (by decide))), if_neg (show ¬ X + 10 = X from (Nat.ne_of_gt (Nat.lt_add_of_pos_right (k := 10) (by decide)))), if_neg (show ¬ X + 10 = X + 2 from (fun q => absurd (Nat.add_left_cancel q) (by decide))), if_neg (show ¬ X + 10 = X + 3 from (fun q => absurd (Nat.add_left_cancel q) (by decide))), if_neg (show ¬ X + 10 = X + 4 from (fun q => absurd (Nat.add_left_cancel q) (by decide))), if_neg (show ¬ X + 10 = X + 7 from (fun q => absurd (Nat.add_left_cancel q) (by decide))), if_neg (show ¬ X + 10 = X + 8 from (fun q => absurd (Nat.add_left_cancel q) (by decide))), if_neg (show ¬ X + 10 = X + 9 from (fun q => absurd (Nat.add_left_cancel q) (by decide))), if_pos rfl]
  have O10 : aO (ow11 e a X) (X + 10) = a := by rw [ow11_O, if_neg (show ¬ X + 10 = X from (Nat.ne_of_gt (Nat.lt_add_of_pos_right (k := 10) (by decide)))), if_neg (show ¬ X + 10 = X + 2 from (fun q => absurd (Nat.add_left_cancel q) (by decide))), if_neg (show ¬ X + 10 = X + 3 from (fun q => absurd (Nat.add_left_cancel q) (by decide))), if_neg (show ¬ X + 10 = X + 4 from (fun q => absurd (Nat.add_left_cancel q) (by decide))), if_neg (show ¬ X + 10 = X + 7 from (fun q => absurd (Nat.add_left_cancel q) (by decide))), if_neg (show ¬ X + 10 = X + 8 from (fun q => absurd (Nat.add_left_cancel q) (by decide))), if_neg (show ¬ X + 10 = X + 9 from (fun q => absurd (Nat.add_left_cancel q) (by decide))), if_pos rfl]
  have P10 : aP (ow11 e a X) 11 5 a = X + 10 := by rw [ow11_P, if_pos rfl, if_neg (by decide), if_pos rfl]
  have Q256 : aK (ow11 e a X) (X + 256) = (1, 11, 8) := by rw [ow11_K, if_neg (show ¬ X + 256 = a from (Nat.ne_of_gt (Nat.lt_of_lt_of_le hlt (Nat.le_add_right _ _)))), if_neg (show ¬ X + 256 = X + 1 from (fun q => absurd (Nat.add_left_cancel q) (by decide))), if_neg (show ¬ X + 256 = X + 5 from (fun q => absurd (Nat.add_left_cancel q) (by decide))), if_neg (show ¬ X + 256 = X + 6 from (fun q => absurd (Nat.add_left_cancel q) (by decide))), if_neg (show ¬ X + 256 = X from (Nat.ne_of_gt (Nat.lt_add_of_pos_right (k := 256) (by decide)))), if_neg (show ¬ X + 256 = X + 2 from (fun q => absurd (Nat.add_left_cancel q) (by decide))), if_neg (show ¬ X + 256 = X + 3 from (fun q => absurd (Nat.add_left_cancel q) (by decide))), if_neg (show ¬ X + 256 = X + 4 from (fun q => absurd (Nat.add_left_cancel q) (by decide))), if_neg (show ¬ X + 256 = X + 7 from (fun q => absurd (Nat.add_left_cancel q) (by decide))), if_neg (show ¬ X + 256 = X + 8 from (fun q => absurd (Nat.add_left_cancel q) (by decide))), if_neg (show ¬ X + 256 = X + 9 from (fun q => absurd (Nat.add_left_cancel q) (by decide))), if_neg (show ¬ X + 256 = X + 10 from (fun q => absurd (Nat.add_left_cancel q) (by decide))), if_pos rfl]
  have O256 : aO (ow11 e a X) (X + 256) = a := by rw [ow11_O, if_neg (show ¬ X + 256 = X from (Nat.ne_of_gt (Nat.lt_add_of_pos_right (k := 256) (by decide)))), if_neg (show ¬ X + 256 = X + 2 from (fun q => absurd (Nat.add_left_cancel q) (by decide))), if_neg (show ¬ X + 256 = X + 3 from (fun q => absurd (Nat.add_left_cancel q) (by decide))), if_neg (show ¬ X + 256 = X + 4 from (fun q => absurd (Nat.add_left_cancel q) (by decide))), if_neg (show ¬ X + 256 = X + 7 from (fun q => absurd (Nat.add_left_cancel q) (by decide))), if_neg (show ¬ X + 256 = X + 8 from (fun q => absurd (Nat.add_left_cancel q) (by decide))), if_neg (show ¬ X + 256 = X + 9 from (fun q => absurd (Nat.add_left_cancel q) (by decide))), if_neg (show ¬ X + 256 = X + 10 from (fun q => absurd (Nat.add_left_cancel q) (by decide))), if_pos rfl]
  have P256 : aP (ow11 e a X) 11 8 a = X + 256 := by rw [ow11_P, if_pos rfl, if_neg (by decide), if_neg (by decide)]
  have R11 : aK (ow11 e a X) (X + 11) = (0, 10, 0) := by rw [ow11_K, if_neg (show ¬ X + 11 = a from (Nat.ne_of_gt (Nat.lt_of_lt_of_le hlt (Nat.le_add_right _ _)))), if_neg (show ¬ X + 11 = X + 1 from (fun q => absurd (Nat.add_left_cancel q) (by decide))), if_neg (show ¬ X + 11 = X + 5 from (fun q => absurd (Nat.add_left_cancel q) (by decide))), if_neg (show ¬ X + 11 = X + 6 from (fun q => absurd (Nat.add_left_cancel q) (by decide))), if_neg (show ¬ X + 11 = X from (Nat.ne_of_gt (Nat.lt_add_of_pos_right (k := 11) (by decide)))), if_neg (show ¬ X + 11 = X + 2 from (fun q => absurd (Nat.add_left_cancel q) (by decide))), if_neg (show ¬ X + 11 = X + 3 from (fun q => absurd (Nat.add_left_cancel q) (by decide))), if_neg (show ¬ X + 11 = X + 4 from (fun q => absurd (Nat.add_left_cancel q) (by decide))), if_neg (show ¬ X + 11 = X + 7 from (fun q => absurd (Nat.add_left_cancel q) (by decide))), if_neg (show ¬ X + 11 = X + 8 from (fun q => absurd (Nat.add_left_cancel q) (by decide))), if_neg (show ¬ X + 11 = X + 9 from (fun q => absurd (Nat.add_left_cancel q) (by decide))), if_neg (show ¬ X + 11 = X + 10 from (fun q => absurd (Nat.add_left_cancel q) (by decide))), if_neg (show ¬ X + 11 = X + 256 from (fun q => absurd (Nat.add_left_cancel q) (by decide)))]; exact p11
  have R257 : aK (ow11 e a X) (X + 257) = (0, 8, 0) := by rw [ow11_K, if_neg (show ¬ X + 257 = a from (Nat.ne_of_gt (Nat.lt_of_lt_of_le hlt (Nat.le_add_right _ _)))), if_neg (show ¬ X + 257 = X + 1 from (fun q => absurd (Nat.add_left_cancel q) (by decide))), if_neg (show ¬ X + 257 = X + 5 from (fun q => absurd (Nat.add_left_cancel q) (by decide))), if_neg (show ¬ X + 257 = X + 6 from (fun q => absurd (Nat.add_left_cancel q) (by decide))), if_neg (show ¬ X + 257 = X from (Nat.ne_of_gt (Nat.lt_add_of_pos_right (k := 257) (by decide)))), if_neg (show ¬ X + 257 = X + 2 from (fun q => absurd (Nat.add_left_cancel q) (by decide))), if_neg (show ¬ X + 257 = X + 3 from (fun q => absurd (Nat.add_left_cancel q) (by decide))), if_neg (show ¬ X + 257 = X + 4 from (fun q => absurd (Nat.add_left_cancel q) (by decide))), if_neg (show ¬ X + 257 = X + 7 from (fun q => absurd (Nat.add_left_cancel q) (by decide))), if_neg (show ¬ X + 257 = X + 8 from (fun q => absurd (Nat.add_left_cancel q) (by decide))), if_neg (show ¬ X + 257 = X + 9 from (fun q => absurd (Nat.add_left_cancel q) (by decide))), if_neg (show ¬ X + 257 = X + 10 from (fun q => absurd (Nat.add_left_cancel q) (by decide))), if_neg (show ¬ X + 257 = X + 256 from (fun q => absurd (Nat.add_left_cancel q) (by decide)))]; exact p257
  have R268 : aK (ow11 e a X) (X + 268) = (0, 6, 0) := by rw [ow11_K, if_neg (show ¬ X + 268 = a from (Nat.ne_of_gt (Nat.lt_of_lt_of_le hlt (Nat.le_add_right _ _)))), if_neg (show ¬ X + 268 = X + 1 from (fun q => absurd (Nat.add_left_cancel q) (by decide))), if_neg (show ¬ X + 268 = X + 5 from (fun q => absurd (Nat.add_left_cancel q) (by decide))), if_neg (show ¬ X + 268 = X + 6 from (fun q => absurd (Nat.add_left_cancel q) (by decide))), if_neg (show ¬ X + 268 = X from (Nat.ne_of_gt (Nat.lt_add_of_pos_right (k := 268) (by decide)))), if_neg (show ¬ X + 268 = X + 2 from (fun q => absurd (Nat.add_left_cancel q) (by decide))), if_neg (show ¬ X + 268 = X + 3 from (fun q => absurd (Nat.add_left_cancel q) (by decide))), if_neg (show ¬ X + 268 = X + 4 from (fun q => absurd (Nat.add_left_cancel q) (by decide))), if_neg (show ¬ X + 268 = X + 7 from (fun q => absurd (Nat.add_left_cancel q) (by decide))), if_neg (show ¬ X + 268 = X + 8 from (fun q => absurd (Nat.add_left_cancel q) (by decide))), if_neg (show ¬ X + 268 = X + 9 from (fun q => absurd (Nat.add_left_cancel q) (by decide))), if_neg (show ¬ X + 268 = X + 10 from (fun q => absurd (Nat.add_left_cancel q) (by decide))), if_neg (show ¬ X + 268 = X + 256 from (fun q => absurd (Nat.add_left_cancel q) (by decide)))]; exact p268
  have R281 : aK (ow11 e a X) (X + 281) = (0, 7, 0) := by rw [ow11_K, if_neg (show ¬ X + 281 = a from (Nat.ne_of_gt (Nat.lt_of_lt_of_le hlt (Nat.le_add_right _ _)))), if_neg (show ¬ X + 281 = X + 1 from (fun q => absurd (Nat.add_left_cancel q) (by decide))), if_neg (show ¬ X + 281 = X + 5 from (fun q => absurd (Nat.add_left_cancel q) (by decide))), if_neg (show ¬ X + 281 = X + 6 from (fun q => absurd (Nat.add_left_cancel q) (by decide))), if_neg (show ¬ X + 281 = X from (Nat.ne_of_gt (Nat.lt_add_of_pos_right (k := 281) (by decide)))), if_neg (show ¬ X + 281 = X + 2 from (fun q => absurd (Nat.add_left_cancel q) (by decide))), if_neg (show ¬ X + 281 = X + 3 from (fun q => absurd (Nat.add_left_cancel q) (by decide))), if_neg (show ¬ X + 281 = X + 4 from (fun q => absurd (Nat.add_left_cancel q) (by decide))), if_neg (show ¬ X + 281 = X + 7 from (fun q => absurd (Nat.add_left_cancel q) (by decide))), if_neg (show ¬ X + 281 = X + 8 from (fun q => absurd (Nat.add_left_cancel q) (by decide))), if_neg (show ¬ X + 281 = X + 9 from (fun q => absurd (Nat.add_left_cancel q) (by decide))), if_neg (show ¬ X + 281 = X + 10 from (fun q => absurd (Nat.add_left_cancel q) (by decide))), if_neg (show ¬ X + 281 = X + 256 from (fun q => absurd (Nat.add_left_cancel q) (by decide)))]; exact p281
  have R284 : aK (ow11 e a X) (X + 284) = (0, 0, 0) := by rw [ow11_K, if_neg (show ¬ X + 284 = a from (Nat.ne_of_gt (Nat.lt_of_lt_of_le hlt (Nat.le_add_right _ _)))), if_neg (show ¬ X + 284 = X + 1 from (fun q => absurd (Nat.add_left_cancel q) (by decide))), if_neg (show ¬ X + 284 = X + 5 from (fun q => absurd (Nat.add_left_cancel q) (by decide))), if_neg (show ¬ X + 284 = X + 6 from (fun q => absurd (Nat.add_left_cancel q) (by decide))), if_neg (show ¬ X + 284 = X from (Nat.ne_of_gt (Nat.lt_add_of_pos_right (k := 284) (by decide)))), if_neg (show ¬ X + 284 = X + 2 from (fun q => absurd (Nat.add_left_cancel q) (by decide))), if_neg (show ¬ X + 284 = X + 3 from (fun q => absurd (Nat.add_left_cancel q) (by decide))), if_neg (show ¬ X + 284 = X + 4 from (fun q => absurd (Nat.add_left_cancel q) (by decide))), if_neg (show ¬ X + 284 = X + 7 from (fun q => absurd (Nat.add_left_cancel q) (by decide))), if_neg (show ¬ X + 284 = X + 8 from (fun q => absurd (Nat.add_left_cancel q) (by decide))), if_neg (show ¬ X + 284 = X + 9 from (fun q => absurd (Nat.add_left_cancel q) (by decide))), if_neg (show ¬ X + 284 = X + 10 from (fun q => absurd (Nat.add_left_cancel q) (by decide))), if_neg (show ¬ X + 284 = X + 256 from (fun q => absurd (Nat.add_left_cancel q) (by decide)))]; exact p284
  have R285 : aK (ow11 e a X) (X + 285) = (0, 9, 0) := by rw [ow11_K, if_neg (show ¬ X + 285 = a from (Nat.ne_of_gt (Nat.lt_of_lt_of_le hlt (Nat.le_add_right _ _)))), if_neg (show ¬ X + 285 = X + 1 from (fun q => absurd (Nat.add_left_cancel q) (by decide))), if_neg (show ¬ X + 285 = X + 5 from (fun q => absurd (Nat.add_left_cancel q) (by decide))), if_neg (show ¬ X + 285 = X + 6 from (fun q => absurd (Nat.add_left_cancel q) (by decide))), if_neg (show ¬ X + 285 = X from (Nat.ne_of_gt (Nat.lt_add_of_pos_right (k := 285) (by decide)))), if_neg (show ¬ X + 285 = X + 2 from (fun q => absurd (Nat.add_left_cancel q) (by decide))), if_neg (show ¬ X + 285 = X + 3 from (fun q => absurd (Nat.add_left_cancel q) (by decide))), if_neg (show ¬ X + 285 = X + 4 from (fun q => absurd (Nat.add_left_cancel q) (by decide))), if_neg (show ¬ X + 285 = X + 7 from (fun q => absurd (Nat.add_left_cancel q) (by decide))), if_neg (show ¬ X + 285 = X + 8 from (fun q => absurd (Nat.add_left_cancel q) (by decide))), if_neg (show ¬ X + 285 = X + 9 from (fun q => absurd (Nat.add_left_cancel q) (by decide))), if_neg (show ¬ X + 285 = X + 10 from (fun q => absurd (Nat.add_left_cancel q) (by decide))), if_neg (show ¬ X + 285 = X + 256 from (fun q => absurd (Nat.add_left_cancel q) (by decide)))]; exact p285
  refine hw_own hW (fun b => b = a ∨ b = X + 1 ∨ b = X + 5 ∨ b = X + 6) (fun b => b = X ∨ b = X + 2 ∨ b = X + 3 ∨ b = X + 4 ∨ b = X + 7 ∨ b = X + 8 ∨ b = X + 9 ∨ b = X + 10 ∨ b = X + 256) rfl rfl rfl rfl rfl rfl (fun b g1 g2 => ?_) (fun b c k g => ?_) (fun b g => ?_) (fun c k b hc g => ?_) rfl (fun b g => ?_) (fun b g => ?_)
  · simp only [not_or] at g1 g2
    rw [ow11_K, if_neg g1.1, if_neg g1.2.1, if_neg g1.2.2.1, if_neg g1.2.2.2, if_neg g2.1, if_neg g2.2.1, if_neg g2.2.2.1, if_neg g2.2.2.2.1, if_neg g2.2.2.2.2.1, if_neg g2.2.2.2.2.2.1, if_neg g2.2.2.2.2.2.2.1, if_neg g2.2.2.2.2.2.2.2.1, if_neg g2.2.2.2.2.2.2.2.2]
  · simp only [not_or] at g
    rw [ow11_P, if_neg g.1, if_neg g.2.1, if_neg g.2.2.2]
  · simp only [not_or] at g
    rw [ow11_O, if_neg g.1, if_neg g.2.1, if_neg g.2.2.1, if_neg g.2.2.2.1, if_neg g.2.2.2.2.1, if_neg g.2.2.2.2.2.1, if_neg g.2.2.2.2.2.2.1, if_neg g.2.2.2.2.2.2.2.1, if_neg g.2.2.2.2.2.2.2.2]
  · simp only [not_or] at g
    match c, hc with
    | 0, _ => exact ⟨rfl, rfl, rfl, rfl, rfl, rfl⟩
    | 1, _ => exact ⟨rfl, rfl, rfl, rfl, rfl, rfl⟩
    | 2, _ => exact (show cI (xC_2 c2 a X) k b = cI c2 k b ∧ cJ (xC_2 c2 a X) k b = cJ c2 k b ∧ cR (xC_2 c2 a X) k b = cR c2 k b ∧ cA (xC_2 c2 a X) k b = cA c2 k b ∧ cB (xC_2 c2 a X) k b = cB c2 k b ∧ cQ (xC_2 c2 a X) k b = cQ c2 k b from by simp [xC_2, sR, zat, cI, cJ, cR, cA, cB, cQ, up2, g.2.2.1])
    | 3, _ => exact (show cI (xC_3 c3 a X) k b = cI c3 k b ∧ cJ (xC_3 c3 a X) k b = cJ c3 k b ∧ cR (xC_3 c3 a X) k b = cR c3 k b ∧ cA (xC_3 c3 a X) k b = cA c3 k b ∧ cB (xC_3 c3 a X) k b = cB c3 k b ∧ cQ (xC_3 c3 a X) k b = cQ c3 k b from by simp [xC_3, sR, zat, cI, cJ, cR, cA, cB, cQ, up2, g.2.1])
    | 4, _ => exact ⟨rfl, rfl, rfl, rfl, rfl, rfl⟩
    | 5, _ => exact (show cI (xC_5 c5 a X) k b = cI c5 k b ∧ cJ (xC_5 c5 a X) k b = cJ c5 k b ∧ cR (xC_5 c5 a X) k b = cR c5 k b ∧ cA (xC_5 c5 a X) k b = cA c5 k b ∧ cB (xC_5 c5 a X) k b = cB c5 k b ∧ cQ (xC_5 c5 a X) k b = cQ c5 k b from by simp [xC_5, sR, zat, cI, cJ, cR, cA, cB, cQ, up2, g.2.2.2])
    | 6, _ => exact ⟨rfl, rfl, rfl, rfl, rfl, rfl⟩
    | 7, _ => exact ⟨rfl, rfl, rfl, rfl, rfl, rfl⟩
    | 8, _ => exact ⟨rfl, rfl, rfl, rfl, rfl, rfl⟩
    | 9, _ => exact ⟨rfl, rfl, rfl, rfl, rfl, rfl⟩
    | 10, _ => exact ⟨rfl, rfl, rfl, rfl, rfl, rfl⟩
    | 11, _ => exact (show cI (xC_11 c11 a X) k b = cI c11 k b ∧ cJ (xC_11 c11 a X) k b = cJ c11 k b ∧ cR (xC_11 c11 a X) k b = cR c11 k b ∧ cA (xC_11 c11 a X) k b = cA c11 k b ∧ cB (xC_11 c11 a X) k b = cB c11 k b ∧ cQ (xC_11 c11 a X) k b = cQ c11 k b from by simp [xC_11, sR, zat, cI, cJ, cR, cA, cB, cQ, up2, g.1])
    | 12, _ => exact ⟨rfl, rfl, rfl, rfl, rfl, rfl⟩
    | c + 13, hc => exact absurd hc (Nat.not_lt.mpr (Nat.le_add_left _ _))
  · rcases g with g | g | g | g
    · rw [g]
      refine ⟨11, by decide, k11, K11, ?_, fun k hk => ?_⟩
      · rw [f11]
        show _ = ([.ref (aP (ow11 e a X) 11 0 a), .int (cI (xC_11 c11 a X) 1 a), .ref (cR (xC_11 c11 a X) 2 a), .ref (cR (xC_11 c11 a X) 3 a), .ref (cR (xC_11 c11 a X) 4 a), .ref (aP (ow11 e a X) 11 5 a), .int (cI (xC_11 c11 a X) 6 a), .ref (cR (xC_11 c11 a X) 7 a), .ref (aP (ow11 e a X) 11 8 a), .ref (cR (xC_11 c11 a X) 9 a), .long (cJ (xC_11 c11 a X) 10 a), .ref (cR (xC_11 c11 a X) 11 a), .ref (cR (xC_11 c11 a X) 12 a), .ref (cR (xC_11 c11 a X) 13 a), .ref (cR (xC_11 c11 a X) 14 a)] : List Value)
        rw [P0, P10, P256]
        simp [xC_11, sR, zat, cI, cJ, cR, cA, cB, cQ, up2]
      · rcases k with _ | _ | _ | _ | _ | _ | _ | _ | _ | _ | _ | _ | _ | _ | _ | k
        · show aK (ow11 e a X) (aP (ow11 e a X) 11 0 a) = (1, 11, 0) ∧ aO (ow11 e a X) (aP (ow11 e a X) 11 0 a) = a ∧ (3 < 0 → ∀ j q, cQ (xC_11 c11 a X) 0 a j = some q → aK (ow11 e a X) q = (0, u_ocl 0, 0))
          rw [P0]
          exact ⟨Q0, O0, fun _ j q hq => by simp [xC_11, sR, zat, cI, cJ, cR, cA, cB, cQ, up2] at hq⟩
        · exact True.intro
        · show aK (ow11 e a X) (cR (xC_11 c11 a X) 2 a) = _
          have hr : cR (xC_11 c11 a X) 2 a = X + 1 := by simp [xC_11, sR, zat, cI, cJ, cR, cA, cB, cQ, up2]
          rw [hr]; exact K3
        · show aK (ow11 e a X) (cR (xC_11 c11 a X) 3 a) = _
          have hr : cR (xC_11 c11 a X) 3 a = X + 5 := by simp [xC_11, sR, zat, cI, cJ, cR, cA, cB, cQ, up2]
          rw [hr]; exact K2
        · show aK (ow11 e a X) (cR (xC_11 c11 a X) 4 a) = _
          have hr : cR (xC_11 c11 a X) 4 a = X + 6 := by simp [xC_11, sR, zat, cI, cJ, cR, cA, cB, cQ, up2]
          rw [hr]; exact K5
        · show aK (ow11 e a X) (aP (ow11 e a X) 11 5 a) = (1, 11, 5) ∧ aO (ow11 e a X) (aP (ow11 e a X) 11 5 a) = a ∧ (3 < 4 → ∀ j q, cQ (xC_11 c11 a X) 5 a j = some q → aK (ow11 e a X) q = (0, u_ocl 4, 0))
          rw [P10]
          exact ⟨Q10, O10, fun _ j q hq => by simp [xC_11, sR, zat, cI, cJ, cR, cA, cB, cQ, up2] at hq⟩
        · exact True.intro
        · show aK (ow11 e a X) (cR (xC_11 c11 a X) 7 a) = _
          have hr : cR (xC_11 c11 a X) 7 a = X + 11 := by simp [xC_11, sR, zat, cI, cJ, cR, cA, cB, cQ, up2]
          rw [hr]; exact R11
        · show aK (ow11 e a X) (aP (ow11 e a X) 11 8 a) = (1, 11, 8) ∧ aO (ow11 e a X) (aP (ow11 e a X) 11 8 a) = a ∧ (3 < 6 → ∀ j q, cQ (xC_11 c11 a X) 8 a j = some q → aK (ow11 e a X) q = (0, u_ocl 6, 0))
          rw [P256]
          exact ⟨Q256, O256, fun _ j q hq => by simp [xC_11, sR, zat, cI, cJ, cR, cA, cB, cQ, up2] at hq⟩
        · show aK (ow11 e a X) (cR (xC_11 c11 a X) 9 a) = _
          have hr : cR (xC_11 c11 a X) 9 a = X + 257 := by simp [xC_11, sR, zat, cI, cJ, cR, cA, cB, cQ, up2]
          rw [hr]; exact R257
        · exact True.intro
        · show aK (ow11 e a X) (cR (xC_11 c11 a X) 11 a) = _
          have hr : cR (xC_11 c11 a X) 11 a = X + 268 := by simp [xC_11, sR, zat, cI, cJ, cR, cA, cB, cQ, up2]
          rw [hr]; exact R268
        · show aK (ow11 e a X) (cR (xC_11 c11 a X) 12 a) = _
          have hr : cR (xC_11 c11 a X) 12 a = X + 281 := by simp [xC_11, sR, zat, cI, cJ, cR, cA, cB, cQ, up2]
          rw [hr]; exact R281
        · show aK (ow11 e a X) (cR (xC_11 c11 a X) 13 a) = _
          have hr : cR (xC_11 c11 a X) 13 a = X + 284 := by simp [xC_11, sR, zat, cI, cJ, cR, cA, cB, cQ, up2]
          rw [hr]; exact R284
        · show aK (ow11 e a X) (cR (xC_11 c11 a X) 14 a) = _
          have hr : cR (xC_11 c11 a X) 14 a = X + 285 := by simp [xC_11, sR, zat, cI, cJ, cR, cA, cB, cQ, up2]
          rw [hr]; exact R285
        · exact absurd hk (Nat.not_lt.mpr (Nat.le_add_left _ _))
    · rw [g]
      refine ⟨3, by decide, k3, K3, ?_, fun k hk => ?_⟩
      have hr : cR (xC_3 c3 a X) 0 (X + 1) = a := by simp [xC_3, sR, zat, cI, cJ, cR, cA, cB, cQ, up2]
      · rw [f3]
        show _ = ([.ref (aP (ow11 e a X) 11 0 (cR (xC_3 c3 a X) 0 (X + 1))), .int (cI (xC_3 c3 a X) 1 (X + 1)), .ref (aP (ow11 e a X) 3 2 (X + 1)), .ref (aP (ow11 e a X) 3 3 (X + 1)), .ref (aP (ow11 e a X) 3 4 (X + 1)), .int (cI (xC_3 c3 a X) 5 (X + 1)), .int (cI (xC_3 c3 a X) 6 (X + 1)), .int (cI (xC_3 c3 a X) 7 (X + 1))] : List Value)
        rw [hr, P0, P2, P3, P4]
        simp [xC_3, sR, zat, cI, cJ, cR, cA, cB, cQ, up2]
      · rcases k with _ | _ | _ | _ | _ | _ | _ | _ | k
        · show aK (ow11 e a X) (cR (xC_3 c3 a X) 0 (X + 1)) = _
          have hr : cR (xC_3 c3 a X) 0 (X + 1) = a := by simp [xC_3, sR, zat, cI, cJ, cR, cA, cB, cQ, up2]
          rw [hr]; exact K11
        · exact True.intro
        · show aK (ow11 e a X) (aP (ow11 e a X) 3 2 (X + 1)) = (1, 3, 2) ∧ aO (ow11 e a X) (aP (ow11 e a X) 3 2 (X + 1)) = (X + 1) ∧ (3 < 1 → ∀ j q, cQ (xC_3 c3 a X) 2 (X + 1) j = some q → aK (ow11 e a X) q = (0, u_ocl 1, 0))
          rw [P2]
          exact ⟨Q2, O2, fun _ j q hq => by simp [xC_3, sR, zat, cI, cJ, cR, cA, cB, cQ, up2] at hq⟩
        · show aK (ow11 e a X) (aP (ow11 e a X) 3 3 (X + 1)) = (1, 3, 3) ∧ aO (ow11 e a X) (aP (ow11 e a X) 3 3 (X + 1)) = (X + 1) ∧ (3 < 1 → ∀ j q, cQ (xC_3 c3 a X) 3 (X + 1) j = some q → aK (ow11 e a X) q = (0, u_ocl 1, 0))
          rw [P3]
          exact ⟨Q3, O3, fun _ j q hq => by simp [xC_3, sR, zat, cI, cJ, cR, cA, cB, cQ, up2] at hq⟩
        · show aK (ow11 e a X) (aP (ow11 e a X) 3 4 (X + 1)) = (1, 3, 4) ∧ aO (ow11 e a X) (aP (ow11 e a X) 3 4 (X + 1)) = (X + 1) ∧ (3 < 1 → ∀ j q, cQ (xC_3 c3 a X) 4 (X + 1) j = some q → aK (ow11 e a X) q = (0, u_ocl 1, 0))
          rw [P4]
          exact ⟨Q4, O4, fun _ j q hq => by simp [xC_3, sR, zat, cI, cJ, cR, cA, cB, cQ, up2] at hq⟩
        · exact True.intro
        · exact True.intro
        · exact True.intro
        · exact absurd hk (Nat.not_lt.mpr (Nat.le_add_left _ _))
    · rw [g]
      refine ⟨2, by decide, k2, K2, ?_, fun k hk => ?_⟩
      · rw [f2]
        show _ = ([.ref (cR (xC_2 c2 a X) 0 (X + 5)), .int (cI (xC_2 c2 a X) 1 (X + 5))] : List Value)
        simp [xC_2, sR, zat, cI, cJ, cR, cA, cB, cQ, up2]
      · rcases k with _ | _ | k
        · show aK (ow11 e a X) (cR (xC_2 c2 a X) 0 (X + 5)) = _
          have hr : cR (xC_2 c2 a X) 0 (X + 5) = X + 1 := by simp [xC_2, sR, zat, cI, cJ, cR, cA, cB, cQ, up2]
          rw [hr]; exact K3
        · exact True.intro
        · exact absurd hk (Nat.not_lt.mpr (Nat.le_add_left _ _))
    · rw [g]
      refine ⟨5, by decide, k5, K5, ?_, fun k hk => ?_⟩
      · rw [f5]
        show _ = ([.ref (cR (xC_5 c5 a X) 0 (X + 6)), .ref (aP (ow11 e a X) 5 1 (X + 6)), .int (cI (xC_5 c5 a X) 2 (X + 6)), .int (cI (xC_5 c5 a X) 3 (X + 6)), .ref (aP (ow11 e a X) 5 4 (X + 6)), .ref (aP (ow11 e a X) 5 5 (X + 6))] : List Value)
        rw [P7, P8, P9]
        simp [xC_5, sR, zat, cI, cJ, cR, cA, cB, cQ, up2]
      · rcases k with _ | _ | _ | _ | _ | _ | k
        · show aK (ow11 e a X) (cR (xC_5 c5 a X) 0 (X + 6)) = _
          have hr : cR (xC_5 c5 a X) 0 (X + 6) = X + 1 := by simp [xC_5, sR, zat, cI, cJ, cR, cA, cB, cQ, up2]
          rw [hr]; exact K3
        · show aK (ow11 e a X) (aP (ow11 e a X) 5 1 (X + 6)) = (1, 5, 1) ∧ aO (ow11 e a X) (aP (ow11 e a X) 5 1 (X + 6)) = (X + 6) ∧ (3 < 1 → ∀ j q, cQ (xC_5 c5 a X) 1 (X + 6) j = some q → aK (ow11 e a X) q = (0, u_ocl 1, 0))
          rw [P7]
          exact ⟨Q7, O7, fun _ j q hq => by simp [xC_5, sR, zat, cI, cJ, cR, cA, cB, cQ, up2] at hq⟩
        · exact True.intro
        · exact True.intro
        · show aK (ow11 e a X) (aP (ow11 e a X) 5 4 (X + 6)) = (1, 5, 4) ∧ aO (ow11 e a X) (aP (ow11 e a X) 5 4 (X + 6)) = (X + 6) ∧ (3 < 1 → ∀ j q, cQ (xC_5 c5 a X) 4 (X + 6) j = some q → aK (ow11 e a X) q = (0, u_ocl 1, 0))
          rw [P8]
          exact ⟨Q8, O8, fun _ j q hq => by simp [xC_5, sR, zat, cI, cJ, cR, cA, cB, cQ, up2] at hq⟩
        · show aK (ow11 e a X) (aP (ow11 e a X) 5 5 (X + 6)) = (1, 5, 5) ∧ aO (ow11 e a X) (aP (ow11 e a X) 5 5 (X + 6)) = (X + 6) ∧ (3 < 1 → ∀ j q, cQ (xC_5 c5 a X) 5 (X + 6) j = some q → aK (ow11 e a X) q = (0, u_ocl 1, 0))
          rw [P9]
          exact ⟨Q9, O9, fun _ j q hq => by simp [xC_5, sR, zat, cI, cJ, cR, cA, cB, cQ, up2] at hq⟩
        · exact absurd hk (Nat.not_lt.mpr (Nat.le_add_left _ _))
  · rcases g with g | g | g | g | g | g | g | g | g
    · rw [g]
      refine ⟨0, 11, 0, q0, Q0, by rw [O0]; exact K11, by decide, by rw [O0]; exact P0, ?_⟩
      rw [O0, n0]
      show arrc (xC_11 c11 a X) 0 400 0 a = _
      exact arr0 (by simp [xC_11, sR, zat, cI, cJ, cR, cA, cB, cQ, up2]) (by simp [xC_11, sR, zat, cI, cJ, cR, cA, cB, cQ, up2]) (by simp [xC_11, sR, zat, cI, cJ, cR, cA, cB, cQ, up2])
    · rw [g]
      refine ⟨1, 3, 2, q2, Q2, by rw [O2]; exact K3, by decide, by rw [O2]; exact P2, ?_⟩
      rw [O2, n2]
      show arrc (xC_3 c3 a X) 1 401 2 (X + 1) = _
      exact arr0 (by simp [xC_3, sR, zat, cI, cJ, cR, cA, cB, cQ, up2]) (by simp [xC_3, sR, zat, cI, cJ, cR, cA, cB, cQ, up2]) (by simp [xC_3, sR, zat, cI, cJ, cR, cA, cB, cQ, up2])
    · rw [g]
      refine ⟨1, 3, 3, q3, Q3, by rw [O3]; exact K3, by decide, by rw [O3]; exact P3, ?_⟩
      rw [O3, n3]
      show arrc (xC_3 c3 a X) 1 401 3 (X + 1) = _
      exact arr0 (by simp [xC_3, sR, zat, cI, cJ, cR, cA, cB, cQ, up2]) (by simp [xC_3, sR, zat, cI, cJ, cR, cA, cB, cQ, up2]) (by simp [xC_3, sR, zat, cI, cJ, cR, cA, cB, cQ, up2])
    · rw [g]
      refine ⟨1, 3, 4, q4, Q4, by rw [O4]; exact K3, by decide, by rw [O4]; exact P4, ?_⟩
      rw [O4, n4]
      show arrc (xC_3 c3 a X) 1 401 4 (X + 1) = _
      exact arr0 (by simp [xC_3, sR, zat, cI, cJ, cR, cA, cB, cQ, up2]) (by simp [xC_3, sR, zat, cI, cJ, cR, cA, cB, cQ, up2]) (by simp [xC_3, sR, zat, cI, cJ, cR, cA, cB, cQ, up2])
    · rw [g]
      refine ⟨1, 5, 1, q7, Q7, by rw [O7]; exact K5, by decide, by rw [O7]; exact P7, ?_⟩
      rw [O7, n7]
      show arrc (xC_5 c5 a X) 1 400 1 (X + 6) = _
      exact arr0 (by simp [xC_5, sR, zat, cI, cJ, cR, cA, cB, cQ, up2]) (by simp [xC_5, sR, zat, cI, cJ, cR, cA, cB, cQ, up2]) (by simp [xC_5, sR, zat, cI, cJ, cR, cA, cB, cQ, up2])
    · rw [g]
      refine ⟨1, 5, 4, q8, Q8, by rw [O8]; exact K5, by decide, by rw [O8]; exact P8, ?_⟩
      rw [O8, n8]
      show arrc (xC_5 c5 a X) 1 12 4 (X + 6) = _
      exact arr0 (by simp [xC_5, sR, zat, cI, cJ, cR, cA, cB, cQ, up2]) (by simp [xC_5, sR, zat, cI, cJ, cR, cA, cB, cQ, up2]) (by simp [xC_5, sR, zat, cI, cJ, cR, cA, cB, cQ, up2])
    · rw [g]
      refine ⟨1, 5, 5, q9, Q9, by rw [O9]; exact K5, by decide, by rw [O9]; exact P9, ?_⟩
      rw [O9, n9]
      show arrc (xC_5 c5 a X) 1 12 5 (X + 6) = _
      exact arr0 (by simp [xC_5, sR, zat, cI, cJ, cR, cA, cB, cQ, up2]) (by simp [xC_5, sR, zat, cI, cJ, cR, cA, cB, cQ, up2]) (by simp [xC_5, sR, zat, cI, cJ, cR, cA, cB, cQ, up2])
    · rw [g]
      refine ⟨4, 11, 5, q10, Q10, by rw [O10]; exact K11, by decide, by rw [O10]; exact P10, ?_⟩
      rw [O10, n10]
      show arrc (xC_11 c11 a X) 4 6 5 a = _
      exact arr0 (by simp [xC_11, sR, zat, cI, cJ, cR, cA, cB, cQ, up2]) (by simp [xC_11, sR, zat, cI, cJ, cR, cA, cB, cQ, up2]) (by simp [xC_11, sR, zat, cI, cJ, cR, cA, cB, cQ, up2])
    · rw [g]
      refine ⟨6, 11, 8, q256, Q256, by rw [O256]; exact K11, by decide, by rw [O256]; exact P256, ?_⟩
      rw [O256, n256]
      show arrc (xC_11 c11 a X) 6 4 8 a = _
      exact arr0 (by simp [xC_11, sR, zat, cI, cJ, cR, cA, cB, cQ, up2]) (by simp [xC_11, sR, zat, cI, cJ, cR, cA, cB, cQ, up2]) (by simp [xC_11, sR, zat, cI, cJ, cR, cA, cB, cQ, up2])
