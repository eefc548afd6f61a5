theorem Adx.s {d e : Ad} (hx : Adx d e) {a c k : Nat} (h : aK d a = (8, c, k)) : aK e a = (8, c, k) := by
  rw [hx.2.1 a (by rw [h]; exact fun q => by cases q)]; exact h
section RowsS
variable {call : Nat → List Value → UH → UR → Prop} {code : Nat → Option UI} {pc : Nat} {L : List (Option Value)} {r st : List Value} {h : UH} {res : UR → Prop} {w w' : Wd} {d : Ad}
theorem hw_scr {a : Nat} (hW : HW w d h) (hk : aK d a = (8, 0, 0)) : h.1 a = .inl (9, aL d, .inl (aT d)) := by
  rw [hW.1 a]; unfold cellOf; rw [hk]; rfl
theorem en_sld {q : Nat} {i v : Int32} (hc : code pc = some (.iaload, [])) (hW : HW w d h) (hk : aK d q = (8, 0, 0)) (hv : ald (aT d) (aL d) i = some v) (kk : Ends call code (pc + 1, L, .int v :: r, h) res) : Ends call code (pc, L, .int i :: .ref q :: r, h) res := by
  obtain ⟨h1, h2⟩ := ald_some hv
  refine en_al0 (m := 1) (v := .int v) hc (fun _ => rfl) ?_ kk
  unfold u_ald
  rw [hw_scr hW hk]
  dsimp only
  rw [if_neg h1, h2]
  rfl
theorem en_slen {q : Nat} (hc : code pc = some (.arraylength, [])) (hW : HW w d h) (hk : aK d q = (8, 0, 0)) (kk : Ends call code (pc + 1, L, .int (Int32.ofNat (aL d)) :: r, h) res) : Ends call code (pc, L, .ref q :: r, h) res := by
  refine en_len0 (n := aL d) hc ?_ rfl kk
  unfold u_len
  rw [hw_scr hW hk]
  rfl
end RowsS
def G_306 (sc : Nat) (a1 : Nat) (a2 : Nat) : Nat → Nat → List Int32 → List Int64 → List Nat → Cl → Cl → Cl → Cl → Cl → Cl → Cl → Cl → Cl → Cl → Cl → Cl → Cl → Cl → Ad → Option (Int32 × Cl × Cl × Cl × Cl × Cl × Cl × Cl × Cl × Cl × Cl × Cl × Cl × Cl × Cl × Ad)
  | 0, _, _, _, _, _, _, _, _, _, _, _, _, _, _, _, _, _, _, _ => none
  | fuel + 1, 0, [x3], [], [], c0, c1, c2, c3, c4, c5, c6, c7, c8, c9, c10, c11, c12, c13, d =>
    if ((Int32.ofNat (aL d)) - 6) < x3 then
    some (1, c0, c1, c2, c3, c4, c5, c6, c7, c8, c9, c10, c11, c12, c13, d)
    else
    ald (aT d) (aL d) x3 >>= fun v2 =>
    if v2 &&& 63 = 0 then
    ald (aT d) (aL d) (x3 + 1) >>= fun v4 =>
    ald (aT d) (aL d) (x3 + 2) >>= fun v5 =>
    ald (aT d) (aL d) (x3 + 3) >>= fun v6 =>
    ald (aT d) (aL d) (x3 + 4) >>= fun v7 =>
    ald (aT d) (aL d) (x3 + 5) >>= fun v8 =>
    F_123 c11 a1 v4 v5 v6 v7 v8 >>= fun r9 =>
    ald (aT d) (aL d) (x3 + 1) >>= fun v10 =>
    ald (aT d) (aL d) (x3 + 2) >>= fun v11 =>
    ald (aT d) (aL d) (x3 + 3) >>= fun v12 =>
    ald (aT d) (aL d) (x3 + 4) >>= fun v13 =>
    ald (aT d) (aL d) (x3 + 5) >>= fun v14 =>
    F_174 c12 a2 v10 v11 v12 v13 v14 >>= fun r15 =>
    if r9.1 = r15.1 then
    G_306 sc a1 a2 fuel 0 [x3 + 6] [] [] c0 c1 c2 c3 c4 c5 c6 c7 c8 c9 c10 r9.2 r15.2 c13 d
    else
    some (0, c0, c1, c2, c3, c4, c5, c6, c7, c8, c9, c10, r9.2, r15.2, c13, d)
    else
    if v2 &&& 63 = 1 then
    ald (aT d) (aL d) (x3 + 1) >>= fun v18 =>
    F_124 c11 a1 v18 >>= fun r19 =>
    ald (aT d) (aL d) (x3 + 1) >>= fun v20 =>
    F_175 c12 a2 v20 >>= fun r21 =>
    if r19.1 = r21.1 then
    G_306 sc a1 a2 fuel 0 [x3 + 6] [] [] c0 c1 c2 c3 c4 c5 c6 c7 c8 c9 c10 r19.2 r21.2 c13 d
    else
    some (0, c0, c1, c2, c3, c4, c5, c6, c7, c8, c9, c10, r19.2, r21.2, c13, d)
    else
    if v2 &&& 63 = 2 then
    F_125 c1 c2 c3 c7 c8 c10 c11 d a1 >>= fun r24 =>
    F_212 c12 a2 >>= fun r27 =>
    if r24.1 = r27.1 then
    G_306 sc a1 a2 fuel 0 [x3 + 6] [] [] c0 r24.2.1 r24.2.2.1 r24.2.2.2.1 c4 c5 c6 r24.2.2.2.2.1 r24.2.2.2.2.2.1 c9 r24.2.2.2.2.2.2.1 r24.2.2.2.2.2.2.2.1 r27.2 c13 r24.2.2.2.2.2.2.2.2
    else
    some (0, c0, r24.2.1, r24.2.2.1, r24.2.2.2.1, c4, c5, c6, r24.2.2.2.2.1, r24.2.2.2.2.2.1, c9, r24.2.2.2.2.2.2.1, r24.2.2.2.2.2.2.2.1, r27.2, c13, r24.2.2.2.2.2.2.2.2)
    else
    if v2 &&& 63 = 3 then
    F_126 c3 c4 c5 c11 c13 d a1 >>= fun r30 =>
    F_211 c12 a2 >>= fun r33 =>
    if r30.1 = r33.1 then
    G_306 sc a1 a2 fuel 0 [x3 + 6] [] [] c0 c1 c2 r30.2.1 r30.2.2.1 r30.2.2.2.1 c6 c7 c8 c9 c10 r30.2.2.2.2.1 r33.2 r30.2.2.2.2.2.1 r30.2.2.2.2.2.2
    else
    some (0, c0, c1, c2, r30.2.1, r30.2.2.1, r30.2.2.2.1, c6, c7, c8, c9, c10, r30.2.2.2.2.1, r33.2, r30.2.2.2.2.2.1, r30.2.2.2.2.2.2)
    else
    if v2 &&& 63 = 4 then
    ald (aT d) (aL d) (x3 + 1) >>= fun v36 =>
    ald (aT d) (aL d) (x3 + 2) >>= fun v37 =>
    F_127 c1 c8 c10 c11 a1 v36 v37 >>= fun r38 =>
    ald (aT d) (aL d) (x3 + 1) >>= fun v39 =>
    ald (aT d) (aL d) (x3 + 2) >>= fun v40 =>
    F_233 c12 a2 v39 v40 >>= fun r41 =>
    if r38 = r41 then
    G_306 sc a1 a2 fuel 0 [x3 + 6] [] [] c0 c1 c2 c3 c4 c5 c6 c7 c8 c9 c10 c11 c12 c13 d
    else
    some (0, c0, c1, c2, c3, c4, c5, c6, c7, c8, c9, c10, c11, c12, c13, d)
    else
    if v2 &&& 63 = 5 then
    ald (aT d) (aL d) (x3 + 1) >>= fun v44 =>
    ald (aT d) (aL d) (x3 + 2) >>= fun v45 =>
    F_128 c1 c8 c10 c11 a1 v44 v45 >>= fun r46 =>
    ald (aT d) (aL d) (x3 + 1) >>= fun v47 =>
    ald (aT d) (aL d) (x3 + 2) >>= fun v48 =>
    F_235 c12 a2 v47 v48 >>= fun r49 =>
    if r46 = r49 then
    G_306 sc a1 a2 fuel 0 [x3 + 6] [] [] c0 c1 c2 c3 c4 c5 c6 c7 c8 c9 c10 c11 c12 c13 d
    else
    some (0, c0, c1, c2, c3, c4, c5, c6, c7, c8, c9, c10, c11, c12, c13, d)
    else
    if v2 &&& 63 = 6 then
    ald (aT d) (aL d) (x3 + 1) >>= fun v52 =>
    ald (aT d) (aL d) (x3 + 2) >>= fun v53 =>
    F_129 c1 c8 c10 c11 a1 v52 v53 >>= fun r54 =>
    ald (aT d) (aL d) (x3 + 1) >>= fun v55 =>
    ald (aT d) (aL d) (x3 + 2) >>= fun v56 =>
    F_236 c12 a2 v55 v56 >>= fun r57 =>
    if r54 = r57 then
    G_306 sc a1 a2 fuel 0 [x3 + 6] [] [] c0 c1 c2 c3 c4 c5 c6 c7 c8 c9 c10 c11 c12 c13 d
    else
    some (0, c0, c1, c2, c3, c4, c5, c6, c7, c8, c9, c10, c11, c12, c13, d)
    else
    if v2 &&& 63 = 7 then
    ald (aT d) (aL d) (x3 + 1) >>= fun v60 =>
    ald (aT d) (aL d) (x3 + 2) >>= fun v61 =>
    F_130 c1 c8 c10 c11 a1 v60 v61 >>= fun r62 =>
    ald (aT d) (aL d) (x3 + 1) >>= fun v63 =>
    ald (aT d) (aL d) (x3 + 2) >>= fun v64 =>
    F_237 c12 a2 v63 v64 >>= fun r65 =>
    if r62 = r65 then
    G_306 sc a1 a2 fuel 0 [x3 + 6] [] [] c0 c1 c2 c3 c4 c5 c6 c7 c8 c9 c10 c11 c12 c13 d
    else
    some (0, c0, c1, c2, c3, c4, c5, c6, c7, c8, c9, c10, c11, c12, c13, d)
    else
    if v2 &&& 63 = 8 then
    ald (aT d) (aL d) (x3 + 1) >>= fun v68 =>
    ald (aT d) (aL d) (x3 + 2) >>= fun v69 =>
    F_131 c1 c8 c10 c11 a1 v68 v69 >>= fun r70 =>
    ald (aT d) (aL d) (x3 + 1) >>= fun v71 =>
    ald (aT d) (aL d) (x3 + 2) >>= fun v72 =>
    F_238 c12 a2 v71 v72 >>= fun r73 =>
    if r70 = r73 then
    G_306 sc a1 a2 fuel 0 [x3 + 6] [] [] c0 c1 c2 c3 c4 c5 c6 c7 c8 c9 c10 c11 c12 c13 d
    else
    some (0, c0, c1, c2, c3, c4, c5, c6, c7, c8, c9, c10, c11, c12, c13, d)
    else
    if v2 &&& 63 = 9 then
    ald (aT d) (aL d) (x3 + 1) >>= fun v76 =>
    ald (aT d) (aL d) (x3 + 2) >>= fun v77 =>
    ald (aT d) (aL d) (x3 + 3) >>= fun v78 =>
    ((if v78 = 0 then
    some 0
    else
    some 1) : Option (Int32)) >>= fun (t79 : Int32) =>
    F_132 c1 c7 c8 c10 c11 a1 v76 v77 t79 >>= fun r81 =>
    ald (aT d) (aL d) (x3 + 1) >>= fun v82 =>
    ald (aT d) (aL d) (x3 + 2) >>= fun v83 =>
    ald (aT d) (aL d) (x3 + 3) >>= fun v84 =>
    ((if v84 = 0 then
    some 0
    else
    some 1) : Option (Int32)) >>= fun (t85 : Int32) =>
    F_245 c12 a2 v82 v83 t85 >>= fun r87 =>
    if r81.1 = r87.1 then
    G_306 sc a1 a2 fuel 0 [x3 + 6] [] [] c0 c1 c2 c3 c4 c5 c6 r81.2.1 r81.2.2.1 c9 r81.2.2.2 c11 r87.2 c13 d
    else
    some (0, c0, c1, c2, c3, c4, c5, c6, r81.2.1, r81.2.2.1, c9, r81.2.2.2, c11, r87.2, c13, d)
    else
    if v2 &&& 63 = 10 then
    F_133 c1 c8 c10 c11 a1 >>= fun r92 =>
    F_246 c12 a2 >>= fun r93 =>
    if r92.1 = r93.1 then
    G_306 sc a1 a2 fuel 0 [x3 + 6] [] [] c0 c1 c2 c3 c4 c5 c6 c7 r92.2.1 c9 r92.2.2 c11 r93.2 c13 d
    else
    some (0, c0, c1, c2, c3, c4, c5, c6, c7, r92.2.1, c9, r92.2.2, c11, r93.2, c13, d)
    else
    if v2 &&& 63 = 11 then
    ald (aT d) (aL d) (x3 + 1) >>= fun v96 =>
    F_134 c1 c7 c8 c10 c11 a1 v96 >>= fun r97 =>
    ald (aT d) (aL d) (x3 + 1) >>= fun v98 =>
    F_247 c12 a2 v98 >>= fun r99 =>
    if r97.1 = r99.1 then
    G_306 sc a1 a2 fuel 0 [x3 + 6] [] [] c0 c1 c2 c3 c4 c5 c6 r97.2.1 r97.2.2 c9 c10 c11 r99.2 c13 d
    else
    some (0, c0, c1, c2, c3, c4, c5, c6, r97.2.1, r97.2.2, c9, c10, c11, r99.2, c13, d)
    else
    if v2 &&& 63 = 12 then
    ald (aT d) (aL d) (x3 + 1) >>= fun v102 =>
    ald (aT d) (aL d) (x3 + 2) >>= fun v103 =>
    ((if v103 = 0 then
    some 0
    else
    some 1) : Option (Int32)) >>= fun (t104 : Int32) =>
    F_135 c1 c7 c8 c10 c11 a1 v102 t104 >>= fun r106 =>
    ald (aT d) (aL d) (x3 + 1) >>= fun v107 =>
    ald (aT d) (aL d) (x3 + 2) >>= fun v108 =>
    ((if v108 = 0 then
    some 0
    else
    some 1) : Option (Int32)) >>= fun (t109 : Int32) =>
    F_248 c12 a2 v107 t109 >>= fun r111 =>
    if r106.1 = r111.1 then
    G_306 sc a1 a2 fuel 0 [x3 + 6] [] [] c0 c1 c2 c3 c4 c5 c6 r106.2.1 r106.2.2 c9 c10 c11 r111.2 c13 d
    else
    some (0, c0, c1, c2, c3, c4, c5, c6, r106.2.1, r106.2.2, c9, c10, c11, r111.2, c13, d)
    else
    if v2 &&& 63 = 13 then
    F_136 c7 c8 c10 c11 a1 >>= fun r116 =>
    F_240 c12 a2 >>= fun r117 =>
    if r116.1 = r117.1 then
    G_306 sc a1 a2 fuel 0 [x3 + 6] [] [] c0 c1 c2 c3 c4 c5 c6 r116.2.1 r116.2.2.1 c9 r116.2.2.2 c11 r117.2 c13 d
    else
    some (0, c0, c1, c2, c3, c4, c5, c6, r116.2.1, r116.2.2.1, c9, r116.2.2.2, c11, r117.2, c13, d)
    else
    if v2 &&& 63 = 14 then
    ald (aT d) (aL d) (x3 + 1) >>= fun v120 =>
    ald (aT d) (aL d) (x3 + 2) >>= fun v121 =>
    F_137 c1 c4 c7 c8 c10 c11 c13 d a1 v120 v121 >>= fun r122 =>
    ald (aT d) (aL d) (x3 + 1) >>= fun v123 =>
    ald (aT d) (aL d) (x3 + 2) >>= fun v124 =>
    F_253 c12 a2 v123 v124 >>= fun r125 =>
    if r122.1 = r125.1 then
    G_306 sc a1 a2 fuel 0 [x3 + 6] [] [] c0 c1 c2 c3 r122.2.1 c5 c6 r122.2.2.1 r122.2.2.2.1 c9 r122.2.2.2.2 c11 r125.2 c13 d
    else
    some (0, c0, c1, c2, c3, r122.2.1, c5, c6, r122.2.2.1, r122.2.2.2.1, c9, r122.2.2.2.2, c11, r125.2, c13, d)
    else
    if v2 &&& 63 = 15 then
    ald (aT d) (aL d) (x3 + 1) >>= fun v128 =>
    ald (aT d) (aL d) (x3 + 2) >>= fun v129 =>
    F_138 c1 c4 c8 c10 c11 c13 d a1 v128 v129 >>= fun r130 =>
    ald (aT d) (aL d) (x3 + 1) >>= fun v131 =>
    ald (aT d) (aL d) (x3 + 2) >>= fun v132 =>
    F_251 c12 a2 v131 v132 >>= fun r133 =>
    if r130.1 = r133.1 then
    G_306 sc a1 a2 fuel 0 [x3 + 6] [] [] c0 c1 c2 c3 r130.2 c5 c6 c7 c8 c9 c10 c11 r133.2 c13 d
    else
    some (0, c0, c1, c2, c3, r130.2, c5, c6, c7, c8, c9, c10, c11, r133.2, c13, d)
    else
    if v2 &&& 63 = 16 then
    ald (aT d) (aL d) (x3 + 1) >>= fun v136 =>
    ald (aT d) (aL d) (x3 + 2) >>= fun v137 =>
    ald (aT d) (aL d) (x3 + 3) >>= fun v138 =>
    F_139 c1 c7 c8 c10 c11 a1 v136 v137 v138 >>= fun r139 =>
    ald (aT d) (aL d) (x3 + 1) >>= fun v140 =>
    ald (aT d) (aL d) (x3 + 2) >>= fun v141 =>
    ald (aT d) (aL d) (x3 + 3) >>= fun v142 =>
    F_254 c12 a2 v140 v141 v142 >>= fun r143 =>
    if r139.1 = r143.1 then
    G_306 sc a1 a2 fuel 0 [x3 + 6] [] [] c0 c1 c2 c3 c4 c5 c6 r139.2.1 c8 c9 r139.2.2 c11 r143.2 c13 d
    else
    some (0, c0, c1, c2, c3, c4, c5, c6, r139.2.1, c8, c9, r139.2.2, c11, r143.2, c13, d)
    else
    if v2 &&& 63 = 17 then
    F_140 c1 c6 c7 c8 c10 c11 c13 d a1 >>= fun r146 =>
    F_264 c12 a2 >>= fun r149 =>
    if (lg_cmp r146.1 r149.1) = 0 then
    G_306 sc a1 a2 fuel 0 [x3 + 6] [] [] c0 c1 c2 c3 c4 c5 r146.2.1 r146.2.2.1 c8 c9 c10 c11 r149.2 r146.2.2.2.1 r146.2.2.2.2
    else
    some (0, c0, c1, c2, c3, c4, c5, r146.2.1, r146.2.2.1, c8, c9, c10, c11, r149.2, r146.2.2.2.1, r146.2.2.2.2)
    else
    if v2 &&& 63 = 18 then
    ald (aT d) (aL d) (x3 + 1) >>= fun v152 =>
    F_141 c1 c6 c7 c8 c10 c11 c13 d a1 v152 >>= fun r153 =>
    ald (aT r153.2.2.2.2) (aL r153.2.2.2.2) (x3 + 1) >>= fun v156 =>
    F_265 c12 a2 v156 >>= fun r157 =>
    if r153.1 = r157.1 then
    G_306 sc a1 a2 fuel 0 [x3 + 6] [] [] c0 c1 c2 c3 c4 c5 r153.2.1 r153.2.2.1 c8 c9 c10 c11 r157.2 r153.2.2.2.1 r153.2.2.2.2
    else
    some (0, c0, c1, c2, c3, c4, c5, r153.2.1, r153.2.2.1, c8, c9, c10, c11, r157.2, r153.2.2.2.1, r153.2.2.2.2)
    else
    if v2 &&& 63 = 19 then
    F_142 c1 c6 c7 c8 c10 c11 c13 d a1 >>= fun r160 =>
    F_266 c12 a2 >>= fun r163 =>
    if r160.1 = r163.1 then
    G_306 sc a1 a2 fuel 0 [x3 + 6] [] [] c0 c1 c2 c3 c4 c5 r160.2.1 r160.2.2.1 c8 c9 c10 c11 r163.2 r160.2.2.2.1 r160.2.2.2.2
    else
    some (0, c0, c1, c2, c3, c4, c5, r160.2.1, r160.2.2.1, c8, c9, c10, c11, r163.2, r160.2.2.2.1, r160.2.2.2.2)
    else
    if v2 &&& 63 = 20 then
    ald (aT d) (aL d) (x3 + 1) >>= fun v166 =>
    F_143 c1 c6 c7 c8 c10 c11 c13 d a1 v166 >>= fun r167 =>
    ald (aT r167.2.2.2.2) (aL r167.2.2.2.2) (x3 + 1) >>= fun v170 =>
    F_268 c12 a2 v170 >>= fun r171 =>
    if r167.1 = r171.1 then
    G_306 sc a1 a2 fuel 0 [x3 + 6] [] [] c0 c1 c2 c3 c4 c5 r167.2.1 r167.2.2.1 c8 c9 c10 c11 r171.2 r167.2.2.2.1 r167.2.2.2.2
    else
    some (0, c0, c1, c2, c3, c4, c5, r167.2.1, r167.2.2.1, c8, c9, c10, c11, r171.2, r167.2.2.2.1, r167.2.2.2.2)
    else
    if v2 &&& 63 = 21 then
    ald (aT d) (aL d) (x3 + 1) >>= fun v174 =>
    F_144 c1 c6 c8 c9 c10 c11 a1 v174 >>= fun r175 =>
    ald (aT d) (aL d) (x3 + 1) >>= fun v176 =>
    F_273 c12 a2 v176 >>= fun r177 =>
    if r175.1 = r177.1 then
    G_306 sc a1 a2 fuel 0 [x3 + 6] [] [] c0 c1 c2 c3 c4 c5 r175.2.1 c7 c8 r175.2.2 c10 c11 r177.2 c13 d
    else
    some (0, c0, c1, c2, c3, c4, c5, r175.2.1, c7, c8, r175.2.2, c10, c11, r177.2, c13, d)
    else
    if v2 &&& 63 = 22 then
    F_145 c1 c6 c8 c9 c10 c11 a1 >>= fun r180 =>
    F_274 c12 a2 >>= fun r181 =>
    if r180.1 = r181.1 then
    G_306 sc a1 a2 fuel 0 [x3 + 6] [] [] c0 c1 c2 c3 c4 c5 r180.2.1 c7 c8 r180.2.2 c10 c11 r181.2 c13 d
    else
    some (0, c0, c1, c2, c3, c4, c5, r180.2.1, c7, c8, r180.2.2, c10, c11, r181.2, c13, d)
    else
    if v2 &&& 63 = 23 then
    ald (aT d) (aL d) (x3 + 1) >>= fun v184 =>
    ald (aT d) (aL d) (x3 + 2) >>= fun v185 =>
    ald (aT d) (aL d) (x3 + 3) >>= fun v186 =>
    F_146 c0 c1 c6 c8 c10 c11 c13 d a1 v184 v185 v186 >>= fun r187 =>
    ald (aT d) (aL d) (x3 + 1) >>= fun v188 =>
    ald (aT d) (aL d) (x3 + 2) >>= fun v189 =>
    ald (aT d) (aL d) (x3 + 3) >>= fun v190 =>
    F_278 c12 a2 v188 v189 v190 >>= fun r191 =>
    if r187.1 = r191.1 then
    G_306 sc a1 a2 fuel 0 [x3 + 6] [] [] r187.2.1 c1 c2 c3 c4 c5 r187.2.2.1 c7 c8 c9 c10 c11 r191.2 r187.2.2.2 d
    else
    some (0, r187.2.1, c1, c2, c3, c4, c5, r187.2.2.1, c7, c8, c9, c10, c11, r191.2, r187.2.2.2, d)
    else
    if v2 &&& 63 = 24 then
    ald (aT d) (aL d) (x3 + 1) >>= fun v194 =>
    ald (aT d) (aL d) (x3 + 2) >>= fun v195 =>
    ald (aT d) (aL d) (x3 + 3) >>= fun v196 =>
    F_147 c0 c1 c6 c8 c10 c11 c13 d a1 v194 v195 v196 >>= fun r197 =>
    ald (aT r197.2.2.2.2) (aL r197.2.2.2.2) (x3 + 1) >>= fun v200 =>
    ald (aT r197.2.2.2.2) (aL r197.2.2.2.2) (x3 + 2) >>= fun v201 =>
    ald (aT r197.2.2.2.2) (aL r197.2.2.2.2) (x3 + 3) >>= fun v202 =>
    F_283 c12 a2 v200 v201 v202 >>= fun r203 =>
    if r197.1 = r203.1 then
    G_306 sc a1 a2 fuel 0 [x3 + 6] [] [] r197.2.1 c1 c2 c3 c4 c5 r197.2.2.1 c7 c8 c9 c10 c11 r203.2 r197.2.2.2.1 r197.2.2.2.2
    else
    some (0, r197.2.1, c1, c2, c3, c4, c5, r197.2.2.1, c7, c8, c9, c10, c11, r203.2, r197.2.2.2.1, r197.2.2.2.2)
    else
    if v2 &&& 63 = 25 then
    ald (aT d) (aL d) (x3 + 1) >>= fun v206 =>
    ald (aT d) (aL d) (x3 + 2) >>= fun v207 =>
    ald (aT d) (aL d) (x3 + 3) >>= fun v208 =>
    F_148 c1 c6 c7 c8 c10 c11 c13 d a1 v206 v207 v208 >>= fun r209 =>
    ald (aT r209.2.2.2.2) (aL r209.2.2.2.2) (x3 + 1) >>= fun v212 =>
    ald (aT r209.2.2.2.2) (aL r209.2.2.2.2) (x3 + 2) >>= fun v213 =>
    ald (aT r209.2.2.2.2) (aL r209.2.2.2.2) (x3 + 3) >>= fun v214 =>
    F_285 c12 a2 v212 v213 v214 >>= fun r215 =>
    if r209.1 = r215.1 then
    G_306 sc a1 a2 fuel 0 [x3 + 6] [] [] c0 c1 c2 c3 c4 c5 r209.2.1 r209.2.2.1 c8 c9 c10 c11 r215.2 r209.2.2.2.1 r209.2.2.2.2
    else
    some (0, c0, c1, c2, c3, c4, c5, r209.2.1, r209.2.2.1, c8, c9, c10, c11, r215.2, r209.2.2.2.1, r209.2.2.2.2)
    else
    if v2 &&& 63 = 26 then
    ald (aT d) (aL d) (x3 + 1) >>= fun v218 =>
    ald (aT d) (aL d) (x3 + 2) >>= fun v219 =>
    F_149 c1 c6 c8 c9 c10 c11 c13 d a1 v218 v219 >>= fun r220 =>
    ald (aT d) (aL d) (x3 + 1) >>= fun v221 =>
    ald (aT d) (aL d) (x3 + 2) >>= fun v222 =>
    F_290 c12 a2 v221 v222 >>= fun r223 =>
    if (lg_cmp r220.1 r223.1) = 0 then
    G_306 sc a1 a2 fuel 0 [x3 + 6] [] [] c0 c1 c2 c3 c4 c5 r220.2.1 c7 c8 r220.2.2.1 c10 c11 r223.2 r220.2.2.2 d
    else
    some (0, c0, c1, c2, c3, c4, c5, r220.2.1, c7, c8, r220.2.2.1, c10, c11, r223.2, r220.2.2.2, d)
    else
    if v2 &&& 63 = 27 then
    ald (aT d) (aL d) (x3 + 1) >>= fun v226 =>
    F_150 c1 c6 c8 c9 c10 c11 a1 v226 >>= fun r227 =>
    ald (aT d) (aL d) (x3 + 1) >>= fun v228 =>
    F_291 c12 a2 v228 >>= fun r229 =>
    if r227.1 = r229 then
    G_306 sc a1 a2 fuel 0 [x3 + 6] [] [] c0 c1 c2 c3 c4 c5 r227.2 c7 c8 c9 c10 c11 c12 c13 d
    else
    some (0, c0, c1, c2, c3, c4, c5, r227.2, c7, c8, c9, c10, c11, c12, c13, d)
    else
    if v2 &&& 63 = 28 then
    ald (aT d) (aL d) (x3 + 1) >>= fun v232 =>
    F_151 c10 c11 a1 v232 >>= fun r233 =>
    ald (aT d) (aL d) (x3 + 1) >>= fun v234 =>
    F_292 c12 a2 v234 >>= fun r235 =>
    if r233.1 = r235.1 then
    G_306 sc a1 a2 fuel 0 [x3 + 6] [] [] c0 c1 c2 c3 c4 c5 c6 c7 c8 c9 r233.2 c11 r235.2 c13 d
    else
    some (0, c0, c1, c2, c3, c4, c5, c6, c7, c8, c9, r233.2, c11, r235.2, c13, d)
    else
    if v2 &&& 63 = 29 then
    ald (aT d) (aL d) (x3 + 1) >>= fun v238 =>
    ald (aT d) (aL d) (x3 + 2) >>= fun v239 =>
    ald (aT d) (aL d) (x3 + 3) >>= fun v240 =>
    ald (aT d) (aL d) (x3 + 4) >>= fun v241 =>
    ald (aT d) (aL d) (x3 + 5) >>= fun v242 =>
    F_152 c1 c8 c10 c11 a1 v238 v239 v240 v241 v242 >>= fun r243 =>
    ald (aT d) (aL d) (x3 + 1) >>= fun v244 =>
    ald (aT d) (aL d) (x3 + 2) >>= fun v245 =>
    ald (aT d) (aL d) (x3 + 3) >>= fun v246 =>
    ald (aT d) (aL d) (x3 + 4) >>= fun v247 =>
    ald (aT d) (aL d) (x3 + 5) >>= fun v248 =>
    F_295 c12 a2 v244 v245 v246 v247 v248 >>= fun r249 =>
    if r243.1 = r249.1 then
    G_306 sc a1 a2 fuel 0 [x3 + 6] [] [] c0 c1 c2 c3 c4 c5 c6 c7 r243.2.1 c9 c10 r243.2.2 r249.2 c13 d
    else
    some (0, c0, c1, c2, c3, c4, c5, c6, c7, r243.2.1, c9, c10, r243.2.2, r249.2, c13, d)
    else
    if v2 &&& 63 = 30 then
    ald (aT d) (aL d) (x3 + 1) >>= fun v252 =>
    F_153 c1 c8 c10 c11 a1 v252 >>= fun r253 =>
    ald (aT d) (aL d) (x3 + 1) >>= fun v254 =>
    F_296 c12 a2 v254 >>= fun r255 =>
    if r253 = r255 then
    G_306 sc a1 a2 fuel 0 [x3 + 6] [] [] c0 c1 c2 c3 c4 c5 c6 c7 c8 c9 c10 c11 c12 c13 d
    else
    some (0, c0, c1, c2, c3, c4, c5, c6, c7, c8, c9, c10, c11, c12, c13, d)
    else
    if v2 &&& 63 = 31 then
    ald (aT d) (aL d) (x3 + 1) >>= fun v258 =>
    F_154 c8 c10 c11 d a1 v258 >>= fun r259 =>
    ald (aT r259.2.2.2.2) (aL r259.2.2.2.2) (x3 + 1) >>= fun v262 =>
    F_297 c12 a2 v262 >>= fun r263 =>
    if r259.1 = r263.1 then
    G_306 sc a1 a2 fuel 0 [x3 + 6] [] [] c0 c1 c2 c3 c4 c5 c6 c7 r259.2.1 c9 r259.2.2.1 r259.2.2.2.1 r263.2 c13 r259.2.2.2.2
    else
    some (0, c0, c1, c2, c3, c4, c5, c6, c7, r259.2.1, c9, r259.2.2.1, r259.2.2.2.1, r263.2, c13, r259.2.2.2.2)
    else
    if v2 &&& 63 = 32 then
    ald (aT d) (aL d) (x3 + 1) >>= fun v266 =>
    F_155 c7 c8 c10 c11 a1 v266 >>= fun r267 =>
    ald (aT d) (aL d) (x3 + 1) >>= fun v268 =>
    F_298 c12 a2 v268 >>= fun r269 =>
    if r267.1 = r269.1 then
    G_306 sc a1 a2 fuel 0 [x3 + 6] [] [] c0 c1 c2 c3 c4 c5 c6 r267.2.1 r267.2.2.1 c9 r267.2.2.2 c11 r269.2 c13 d
    else
    some (0, c0, c1, c2, c3, c4, c5, c6, r267.2.1, r267.2.2.1, c9, r267.2.2.2, c11, r269.2, c13, d)
    else
    G_306 sc a1 a2 fuel 0 [x3 + 6] [] [] c0 c1 c2 c3 c4 c5 c6 c7 c8 c9 c10 c11 c12 c13 d
  | _ + 1, _, _, _, _, _, _, _, _, _, _, _, _, _, _, _, _, _, _, _ => none
set_option maxRecDepth 100000 in
set_option maxHeartbeats 4000000 in
theorem g_306 {D : Nat} (hD : 48 ≤ D + 1) {sc : Nat} {a1 : Nat} {a2 : Nat} : ∀ (fuel : Nat) (lab : Nat) (xs : List Int32) (ys : List Int64) (zs : List Nat) (c0 : Cl) (c1 : Cl) (c2 : Cl) (c3 : Cl) (c4 : Cl) (c5 : Cl) (c6 : Cl) (c7 : Cl) (c8 : Cl) (c9 : Cl) (c10 : Cl) (c11 : Cl) (c12 : Cl) (c13 : Cl) (d : Ad) (r : (Int32 × Cl × Cl × Cl × Cl × Cl × Cl × Cl × Cl × Cl × Cl × Cl × Cl × Cl × Cl × Ad)), G_306 sc a1 a2 fuel lab xs ys zs c0 c1 c2 c3 c4 c5 c6 c7 c8 c9 c10 c11 c12 c13 d = some r →
    (∀ (x3 : Int32), lab = 0 → xs = [x3] → ys = [] → zs = [] → aK d sc = (8, 0, 0) → aK d a1 = (0, 11, 0) → aK d a2 = (0, 12, 0) → ∀ h : UH, HW (mkw c0 c1 c2 c3 c4 c5 c6 c7 c8 c9 c10 c11 c12 c13) d h → ∀ QQ : UR → Prop, (∀ h' : UH, HX d (mkw r.2.1 r.2.2.1 r.2.2.2.1 r.2.2.2.2.1 r.2.2.2.2.2.1 r.2.2.2.2.2.2.1 r.2.2.2.2.2.2.2.1 r.2.2.2.2.2.2.2.2.1 r.2.2.2.2.2.2.2.2.2.1 r.2.2.2.2.2.2.2.2.2.2.1 r.2.2.2.2.2.2.2.2.2.2.2.1 r.2.2.2.2.2.2.2.2.2.2.2.2.1 r.2.2.2.2.2.2.2.2.2.2.2.2.2.1 r.2.2.2.2.2.2.2.2.2.2.2.2.2.2.1) r.2.2.2.2.2.2.2.2.2.2.2.2.2.2.2 h' → QQ (some (.int r.1), h')) → Ends (EX D) (u_at kl_306) (18, [some (.ref sc), some (.ref a1), some (.ref a2), some (.int x3)], [], h) QQ) := by
  intro fuel
  refine Nat.rec (motive := fun fuel => ∀ (lab : Nat) (xs : List Int32) (ys : List Int64) (zs : List Nat) (c0 : Cl) (c1 : Cl) (c2 : Cl) (c3 : Cl) (c4 : Cl) (c5 : Cl) (c6 : Cl) (c7 : Cl) (c8 : Cl) (c9 : Cl) (c10 : Cl) (c11 : Cl) (c12 : Cl) (c13 : Cl) (d : Ad) (r : (Int32 × Cl × Cl × Cl × Cl × Cl × Cl × Cl × Cl × Cl × Cl × Cl × Cl × Cl × Cl × Ad)), G_306 sc a1 a2 fuel lab xs ys zs c0 c1 c2 c3 c4 c5 c6 c7 c8 c9 c10 c11 c12 c13 d = some r →
    (∀ (x3 : Int32), lab = 0 → xs = [x3] → ys = [] → zs = [] → aK d sc = (8, 0, 0) → aK d a1 = (0, 11, 0) → aK d a2 = (0, 12, 0) → ∀ h : UH, HW (mkw c0 c1 c2 c3 c4 c5 c6 c7 c8 c9 c10 c11 c12 c13) d h → ∀ QQ : UR → Prop, (∀ h' : UH, HX d (mkw r.2.1 r.2.2.1 r.2.2.2.1 r.2.2.2.2.1 r.2.2.2.2.2.1 r.2.2.2.2.2.2.1 r.2.2.2.2.2.2.2.1 r.2.2.2.2.2.2.2.2.1 r.2.2.2.2.2.2.2.2.2.1 r.2.2.2.2.2.2.2.2.2.2.1 r.2.2.2.2.2.2.2.2.2.2.2.1 r.2.2.2.2.2.2.2.2.2.2.2.2.1 r.2.2.2.2.2.2.2.2.2.2.2.2.2.1 r.2.2.2.2.2.2.2.2.2.2.2.2.2.2.1) r.2.2.2.2.2.2.2.2.2.2.2.2.2.2.2 h' → QQ (some (.int r.1), h')) → Ends (EX D) (u_at kl_306) (18, [some (.ref sc), some (.ref a1), some (.ref a2), some (.int x3)], [], h) QQ)) ?_ (fun fuel ih => ?_) fuel
  · intro lab xs ys zs c0 c1 c2 c3 c4 c5 c6 c7 c8 c9 c10 c11 c12 c13 d r hF
    have hF : (none : Option (Int32 × Cl × Cl × Cl × Cl × Cl × Cl × Cl × Cl × Cl × Cl × Cl × Cl × Cl × Cl × Ad)) = some r := hF
    cases hF
  intro lab xs ys zs c0 c1 c2 c3 c4 c5 c6 c7 c8 c9 c10 c11 c12 c13 d r hF
  · intro x3 e1 e2 e3 e4 hsc ha1 ha2 h hW QQ hQ
    subst e1 e2 e3 e4
    rw [G_306] at hF
    refine en_segs [(18, .iload_n 3, []), (19, .aload_n 0, [])] (by decide +kernel) (y := (20, [some (.ref sc), some (.ref a1), some (.ref a2), some (.int x3)], [.ref sc, .int x3], h)) rfl ?_
    refine en_slen (by decide +kernel : u_at kl_306 20 = some (.arraylength, [])) hW hsc ?_
    refine en_segs [(21, .bipush 6, []), (23, .isub, [])] (by decide +kernel) (y := (24, [some (.ref sc), some (.ref a1), some (.ref a2), some (.int x3)], [.int ((Int32.ofNat (aL d)) - 6), .int x3], h)) rfl ?_
    refine en_ic_gt (by decide +kernel : u_at kl_306 24 = some (.if_icmp .gt 1155, [1179])) (fun b1 => ?_) (fun b1 => ?_)
    · replace hF := i_pos b1 hF
      refine en_segs [(1179, .iconst 1, [])] (by decide +kernel) (y := (1180, [some (.ref sc), some (.ref a1), some (.ref a2), some (.int x3)], [.int 1], h)) rfl ?_
      obtain rfl := Option.some.inj hF
      exact en_ret (by decide +kernel : u_at kl_306 1180 = some (.ireturn, [1])) rfl (hQ _ ⟨hW, Adx.rf⟩)
    · replace hF := i_neg b1 hF
      refine en_segs [(27, .aload_n 0, []), (28, .iload_n 3, [])] (by decide +kernel) (y := (29, [some (.ref sc), some (.ref a1), some (.ref a2), some (.int x3)], [.int x3, .ref sc], h)) rfl ?_
      obtain ⟨v2, hv2, hF⟩ := ob_some hF
      refine en_sld (by decide +kernel : u_at kl_306 29 = some (.iaload, [])) hW hsc hv2 ?_
      refine en_segs [(30, .bipush 63, []), (32, .iand, [])] (by decide +kernel) (y := (33, [some (.ref sc), some (.ref a1), some (.ref a2), some (.int x3)], [.int (v2 &&& 63)], h)) rfl ?_
      by_cases b3 : v2 &&& 63 = 0
      · replace hF := i_pos b3 hF
        refine en_tsC (by decide +kernel : u_at kl_306 33 = some (.tableswitch 1140 0 32 #[147, 210, 233, 246, 259, 292, 325, 358, 391, 424, 483, 496, 519, 568, 581, 614, 647, 690, 704, 727, 740, 763, 786, 799, 842, 885, 928, 962, 985, 1008, 1071, 1094, 1117], [1173, 180, 243, 266, 279, 292, 325, 358, 391, 424, 457, 516, 529, 552, 601, 614, 647, 680, 723, 737, 760, 773, 796, 819, 832, 875, 918, 961, 995, 1018, 1041, 1104, 1127, 1150])) (by rw [b3]; decide) (u := 180) (by rw [b3]; rfl) ?_
        refine en_segs [(180, .aload_n 1, []), (181, .aload_n 0, []), (182, .iload_n 3, []), (183, .iconst 1, []), (184, .iadd, [])] (by decide +kernel) (y := (185, [some (.ref sc), some (.ref a1), some (.ref a2), some (.int x3)], [.int (x3 + 1), .ref sc, .ref a1], h)) rfl ?_
        obtain ⟨v4, hv4, hF⟩ := ob_some hF
        refine en_sld (by decide +kernel : u_at kl_306 185 = some (.iaload, [])) hW hsc hv4 ?_
        refine en_segs [(186, .aload_n 0, []), (187, .iload_n 3, []), (188, .iconst 2, []), (189, .iadd, [])] (by decide +kernel) (y := (190, [some (.ref sc), some (.ref a1), some (.ref a2), some (.int x3)], [.int (x3 + 2), .ref sc, .int v4, .ref a1], h)) rfl ?_
        obtain ⟨v5, hv5, hF⟩ := ob_some hF
        refine en_sld (by decide +kernel : u_at kl_306 190 = some (.iaload, [])) hW hsc hv5 ?_
        refine en_segs [(191, .aload_n 0, []), (192, .iload_n 3, []), (193, .iconst 3, []), (194, .iadd, [])] (by decide +kernel) (y := (195, [some (.ref sc), some (.ref a1), some (.ref a2), some (.int x3)], [.int (x3 + 3), .ref sc, .int v5, .int v4, .ref a1], h)) rfl ?_
        obtain ⟨v6, hv6, hF⟩ := ob_some hF
        refine en_sld (by decide +kernel : u_at kl_306 195 = some (.iaload, [])) hW hsc hv6 ?_
        refine en_segs [(196, .aload_n 0, []), (197, .iload_n 3, []), (198, .iconst 4, []), (199, .iadd, [])] (by decide +kernel) (y := (200, [some (.ref sc), some (.ref a1), some (.ref a2), some (.int x3)], [.int (x3 + 4), .ref sc, .int v6, .int v5, .int v4, .ref a1], h)) rfl ?_
        obtain ⟨v7, hv7, hF⟩ := ob_some hF
        refine en_sld (by decide +kernel : u_at kl_306 200 = some (.iaload, [])) hW hsc hv7 ?_
        refine en_segs [(201, .aload_n 0, []), (202, .iload_n 3, []), (203, .iconst 5, []), (204, .iadd, [])] (by decide +kernel) (y := (205, [some (.ref sc), some (.ref a1), some (.ref a2), some (.int x3)], [.int (x3 + 5), .ref sc, .int v7, .int v6, .int v5, .int v4, .ref a1], h)) rfl ?_
        obtain ⟨v8, hv8, hF⟩ := ob_some hF
        refine en_sld (by decide +kernel : u_at kl_306 205 = some (.iaload, [])) hW hsc hv8 ?_
        obtain ⟨r9, hr9, hF⟩ := ob_some hF
        refine en_vi (r := []) (by decide +kernel : u_at kl_306 206 = some (.invokevirtual 13, [123, 5, 11])) hW ha1 rfl rfl (Nat.le_of_ble_eq_true rfl) (e_123 (D := D) (by omega) hW ha1 hr9) (fun h hW => ?_)
        have hW : HW (mkw c0 c1 c2 c3 c4 c5 c6 c7 c8 c9 c10 r9.2 c12 c13) d h := hW
        refine en_segs [(209, .aload_n 2, []), (210, .aload_n 0, []), (211, .iload_n 3, []), (212, .iconst 1, []), (213, .iadd, [])] (by decide +kernel) (y := (214, [some (.ref sc), some (.ref a1), some (.ref a2), some (.int x3)], [.int (x3 + 1), .ref sc, .ref a2, .int r9.1], h)) rfl ?_
        obtain ⟨v10, hv10, hF⟩ := ob_some hF
        refine en_sld (by decide +kernel : u_at kl_306 214 = some (.iaload, [])) hW hsc hv10 ?_
        refine en_segs [(215, .aload_n 0, []), (216, .iload_n 3, []), (217, .iconst 2, []), (218, .iadd, [])] (by decide +kernel) (y := (219, [some (.ref sc), some (.ref a1), some (.ref a2), some (.int x3)], [.int (x3 + 2), .ref sc, .int v10, .ref a2, .int r9.1], h)) rfl ?_
        obtain ⟨v11, hv11, hF⟩ := ob_some hF
        refine en_sld (by decide +kernel : u_at kl_306 219 = some (.iaload, [])) hW hsc hv11 ?_
        refine en_segs [(220, .aload_n 0, []), (221, .iload_n 3, []), (222, .iconst 3, []), (223, .iadd, [])] (by decide +kernel) (y := (224, [some (.ref sc), some (.ref a1), some (.ref a2), some (.int x3)], [.int (x3 + 3), .ref sc, .int v11, .int v10, .ref a2, .int r9.1], h)) rfl ?_
        obtain ⟨v12, hv12, hF⟩ := ob_some hF
        refine en_sld (by decide +kernel : u_at kl_306 224 = some (.iaload, [])) hW hsc hv12 ?_
        refine en_segs [(225, .aload_n 0, []), (226, .iload_n 3, []), (227, .iconst 4, []), (228, .iadd, [])] (by decide +kernel) (y := (229, [some (.ref sc), some (.ref a1), some (.ref a2), some (.int x3)], [.int (x3 + 4), .ref sc, .int v12, .int v11, .int v10, .ref a2, .int r9.1], h)) rfl ?_
        obtain ⟨v13, hv13, hF⟩ := ob_some hF
        refine en_sld (by decide +kernel : u_at kl_306 229 = some (.iaload, [])) hW hsc hv13 ?_
        refine en_segs [(230, .aload_n 0, []), (231, .iload_n 3, []), (232, .iconst 5, []), (233, .iadd, [])] (by decide +kernel) (y := (234, [some (.ref sc), some (.ref a1), some (.ref a2), some (.int x3)], [.int (x3 + 5), .ref sc, .int v13, .int v12, .int v11, .int v10, .ref a2, .int r9.1], h)) rfl ?_
        obtain ⟨v14, hv14, hF⟩ := ob_some hF
        refine en_sld (by decide +kernel : u_at kl_306 234 = some (.iaload, [])) hW hsc hv14 ?_
        obtain ⟨r15, hr15, hF⟩ := ob_some hF
        refine en_vi (r := [.int r9.1]) (by decide +kernel : u_at kl_306 235 = some (.invokevirtual 17, [174, 5, 12])) hW ha2 rfl rfl (Nat.le_of_ble_eq_true rfl) (e_174 (D := D) (by omega) hW ha2 hr15) (fun h hW => ?_)
        have hW : HW (mkw c0 c1 c2 c3 c4 c5 c6 c7 c8 c9 c10 r9.2 r15.2 c13) d h := hW
        refine en_ic_eq (by decide +kernel : u_at kl_306 238 = some (.if_icmp .eq 935, [1173])) (fun b16 => ?_) (fun b16 => ?_)
        · replace hF := i_pos b16 hF
          refine en_segs [(1173, .iinc 3 6, []), (1176, .goto (-1158), [18])] (by decide +kernel) (y := (18, [some (.ref sc), some (.ref a1), some (.ref a2), some (.int (x3 + 6))], [], h)) rfl ?_
          exact (ih _ _ _ _ _ _ _ _ _ _ _ _ _ _ _ _ _ _ _ _ hF) _ rfl rfl rfl rfl  hsc ha1 ha2 _ hW _ hQ
        · replace hF := i_neg b16 hF
          refine en_segs [(241, .iconst 0, [])] (by decide +kernel) (y := (242, [some (.ref sc), some (.ref a1), some (.ref a2), some (.int x3)], [.int 0], h)) rfl ?_
          obtain rfl := Option.some.inj hF
          exact en_ret (by decide +kernel : u_at kl_306 242 = some (.ireturn, [1])) rfl (hQ _ ⟨hW, Adx.rf⟩)
      · replace hF := i_neg b3 hF
        by_cases b17 : v2 &&& 63 = 1
        · replace hF := i_pos b17 hF
          refine en_tsC (by decide +kernel : u_at kl_306 33 = some (.tableswitch 1140 0 32 #[147, 210, 233, 246, 259, 292, 325, 358, 391, 424, 483, 496, 519, 568, 581, 614, 647, 690, 704, 727, 740, 763, 786, 799, 842, 885, 928, 962, 985, 1008, 1071, 1094, 1117], [1173, 180, 243, 266, 279, 292, 325, 358, 391, 424, 457, 516, 529, 552, 601, 614, 647, 680, 723, 737, 760, 773, 796, 819, 832, 875, 918, 961, 995, 1018, 1041, 1104, 1127, 1150])) (by rw [b17]; decide) (u := 243) (by rw [b17]; rfl) ?_
          refine en_segs [(243, .aload_n 1, []), (244, .aload_n 0, []), (245, .iload_n 3, []), (246, .iconst 1, []), (247, .iadd, [])] (by decide +kernel) (y := (248, [some (.ref sc), some (.ref a1), some (.ref a2), some (.int x3)], [.int (x3 + 1), .ref sc, .ref a1], h)) rfl ?_
          obtain ⟨v18, hv18, hF⟩ := ob_some hF
          refine en_sld (by decide +kernel : u_at kl_306 248 = some (.iaload, [])) hW hsc hv18 ?_
          obtain ⟨r19, hr19, hF⟩ := ob_some hF
          refine en_vi (r := []) (by decide +kernel : u_at kl_306 249 = some (.invokevirtual 18, [124, 1, 11])) hW ha1 rfl rfl (Nat.le_of_ble_eq_true rfl) (e_124 (D := D) (by omega) hW ha1 hr19) (fun h hW => ?_)
          have hW : HW (mkw c0 c1 c2 c3 c4 c5 c6 c7 c8 c9 c10 r19.2 c12 c13) d h := hW
          refine en_segs [(252, .aload_n 2, []), (253, .aload_n 0, []), (254, .iload_n 3, []), (255, .iconst 1, []), (256, .iadd, [])] (by decide +kernel) (y := (257, [some (.ref sc), some (.ref a1), some (.ref a2), some (.int x3)], [.int (x3 + 1), .ref sc, .ref a2, .int r19.1], h)) rfl ?_
          obtain ⟨v20, hv20, hF⟩ := ob_some hF
          refine en_sld (by decide +kernel : u_at kl_306 257 = some (.iaload, [])) hW hsc hv20 ?_
          obtain ⟨r21, hr21, hF⟩ := ob_some hF
          refine en_vi (r := [.int r19.1]) (by decide +kernel : u_at kl_306 258 = some (.invokevirtual 22, [175, 1, 12])) hW ha2 rfl rfl (Nat.le_of_ble_eq_true rfl) (e_175 (D := D) (by omega) hW ha2 hr21) (fun h hW => ?_)
          have hW : HW (mkw c0 c1 c2 c3 c4 c5 c6 c7 c8 c9 c10 r19.2 r21.2 c13) d h := hW
          refine en_ic_eq (by decide +kernel : u_at kl_306 261 = some (.if_icmp .eq 912, [1173])) (fun b22 => ?_) (fun b22 => ?_)
          · replace hF := i_pos b22 hF
            refine en_segs [(1173, .iinc 3 6, []), (1176, .goto (-1158), [18])] (by decide +kernel) (y := (18, [some (.ref sc), some (.ref a1), some (.ref a2), some (.int (x3 + 6))], [], h)) rfl ?_
            exact (ih _ _ _ _ _ _ _ _ _ _ _ _ _ _ _ _ _ _ _ _ hF) _ rfl rfl rfl rfl  hsc ha1 ha2 _ hW _ hQ
          · replace hF := i_neg b22 hF
            refine en_segs [(264, .iconst 0, [])] (by decide +kernel) (y := (265, [some (.ref sc), some (.ref a1), some (.ref a2), some (.int x3)], [.int 0], h)) rfl ?_
            obtain rfl := Option.some.inj hF
            exact en_ret (by decide +kernel : u_at kl_306 265 = some (.ireturn, [1])) rfl (hQ _ ⟨hW, Adx.rf⟩)
        · replace hF := i_neg b17 hF
          by_cases b23 : v2 &&& 63 = 2
          · replace hF := i_pos b23 hF
            refine en_tsC (by decide +kernel : u_at kl_306 33 = some (.tableswitch 1140 0 32 #[147, 210, 233, 246, 259, 292, 325, 358, 391, 424, 483, 496, 519, 568, 581, 614, 647, 690, 704, 727, 740, 763, 786, 799, 842, 885, 928, 962, 985, 1008, 1071, 1094, 1117], [1173, 180, 243, 266, 279, 292, 325, 358, 391, 424, 457, 516, 529, 552, 601, 614, 647, 680, 723, 737, 760, 773, 796, 819, 832, 875, 918, 961, 995, 1018, 1041, 1104, 1127, 1150])) (by rw [b23]; decide) (u := 266) (by rw [b23]; rfl) ?_
            refine en_segs [(266, .aload_n 1, [])] (by decide +kernel) (y := (267, [some (.ref sc), some (.ref a1), some (.ref a2), some (.int x3)], [.ref a1], h)) rfl ?_
            obtain ⟨r24, hr24, hF⟩ := ob_some hF
            refine en_vi (r := []) (by decide +kernel : u_at kl_306 267 = some (.invokevirtual 23, [125, 0, 11])) hW ha1 rfl rfl (Nat.le_of_ble_eq_true rfl) (e_125 (D := D) (by omega) hW ha1 hr24) (fun h q => ?_)
            obtain ⟨hW, X25⟩ := q
            have ha1 := X25.o ha1
            have ha2 := X25.o ha2
            have hsc := X25.s hsc
            have A26 := X25
            have hW : HW (mkw c0 r24.2.1 r24.2.2.1 r24.2.2.2.1 c4 c5 c6 r24.2.2.2.2.1 r24.2.2.2.2.2.1 c9 r24.2.2.2.2.2.2.1 r24.2.2.2.2.2.2.2.1 c12 c13) r24.2.2.2.2.2.2.2.2 h := hW
            refine en_segs [(270, .aload_n 2, [])] (by decide +kernel) (y := (271, [some (.ref sc), some (.ref a1), some (.ref a2), some (.int x3)], [.ref a2, .int r24.1], h)) rfl ?_
            obtain ⟨r27, hr27, hF⟩ := ob_some hF
            refine en_vi (r := [.int r24.1]) (by decide +kernel : u_at kl_306 271 = some (.invokevirtual 27, [212, 0, 12])) hW ha2 rfl rfl (Nat.le_of_ble_eq_true rfl) (e_212 (D := D) (by omega) hW ha2 hr27) (fun h hW => ?_)
            have hW : HW (mkw c0 r24.2.1 r24.2.2.1 r24.2.2.2.1 c4 c5 c6 r24.2.2.2.2.1 r24.2.2.2.2.2.1 c9 r24.2.2.2.2.2.2.1 r24.2.2.2.2.2.2.2.1 r27.2 c13) r24.2.2.2.2.2.2.2.2 h := hW
            refine en_ic_eq (by decide +kernel : u_at kl_306 274 = some (.if_icmp .eq 899, [1173])) (fun b28 => ?_) (fun b28 => ?_)
            · replace hF := i_pos b28 hF
              refine en_segs [(1173, .iinc 3 6, []), (1176, .goto (-1158), [18])] (by decide +kernel) (y := (18, [some (.ref sc), some (.ref a1), some (.ref a2), some (.int (x3 + 6))], [], h)) rfl ?_
              exact (ih _ _ _ _ _ _ _ _ _ _ _ _ _ _ _ _ _ _ _ _ hF) _ rfl rfl rfl rfl  hsc ha1 ha2 _ hW _ (fun h' p => hQ h' ⟨p.1, A26.trans p.2⟩)
            · replace hF := i_neg b28 hF
              refine en_segs [(277, .iconst 0, [])] (by decide +kernel) (y := (278, [some (.ref sc), some (.ref a1), some (.ref a2), some (.int x3)], [.int 0], h)) rfl ?_
              obtain rfl := Option.some.inj hF
              exact en_ret (by decide +kernel : u_at kl_306 278 = some (.ireturn, [1])) rfl (hQ _ ⟨hW, A26⟩)
          · replace hF := i_neg b23 hF
            by_cases b29 : v2 &&& 63 = 3
            · replace hF := i_pos b29 hF
              refine en_tsC (by decide +kernel : u_at kl_306 33 = some (.tableswitch 1140 0 32 #[147, 210, 233, 246, 259, 292, 325, 358, 391, 424, 483, 496, 519, 568, 581, 614, 647, 690, 704, 727, 740, 763, 786, 799, 842, 885, 928, 962, 985, 1008, 1071, 1094, 1117], [1173, 180, 243, 266, 279, 292, 325, 358, 391, 424, 457, 516, 529, 552, 601, 614, 647, 680, 723, 737, 760, 773, 796, 819, 832, 875, 918, 961, 995, 1018, 1041, 1104, 1127, 1150])) (by rw [b29]; decide) (u := 279) (by rw [b29]; rfl) ?_
              refine en_segs [(279, .aload_n 1, [])] (by decide +kernel) (y := (280, [some (.ref sc), some (.ref a1), some (.ref a2), some (.int x3)], [.ref a1], h)) rfl ?_
              obtain ⟨r30, hr30, hF⟩ := ob_some hF
              refine en_vi (r := []) (by decide +kernel : u_at kl_306 280 = some (.invokevirtual 28, [126, 0, 11])) hW ha1 rfl rfl (Nat.le_of_ble_eq_true rfl) (e_126 (D := D) (by omega) hW ha1 hr30) (fun h q => ?_)
              obtain ⟨hW, X31⟩ := q
              have ha1 := X31.o ha1
              have ha2 := X31.o ha2
              have hsc := X31.s hsc
              have A32 := X31
              have hW : HW (mkw c0 c1 c2 r30.2.1 r30.2.2.1 r30.2.2.2.1 c6 c7 c8 c9 c10 r30.2.2.2.2.1 c12 r30.2.2.2.2.2.1) r30.2.2.2.2.2.2 h := hW
              refine en_segs [(283, .aload_n 2, [])] (by decide +kernel) (y := (284, [some (.ref sc), some (.ref a1), some (.ref a2), some (.int x3)], [.ref a2, .int r30.1], h)) rfl ?_
              obtain ⟨r33, hr33, hF⟩ := ob_some hF
              refine en_vi (r := [.int r30.1]) (by decide +kernel : u_at kl_306 284 = some (.invokevirtual 31, [211, 0, 12])) hW ha2 rfl rfl (Nat.le_of_ble_eq_true rfl) (e_211 (D := D) (by omega) hW ha2 hr33) (fun h hW => ?_)
              have hW : HW (mkw c0 c1 c2 r30.2.1 r30.2.2.1 r30.2.2.2.1 c6 c7 c8 c9 c10 r30.2.2.2.2.1 r33.2 r30.2.2.2.2.2.1) r30.2.2.2.2.2.2 h := hW
              refine en_ic_eq (by decide +kernel : u_at kl_306 287 = some (.if_icmp .eq 886, [1173])) (fun b34 => ?_) (fun b34 => ?_)
              · replace hF := i_pos b34 hF
                refine en_segs [(1173, .iinc 3 6, []), (1176, .goto (-1158), [18])] (by decide +kernel) (y := (18, [some (.ref sc), some (.ref a1), some (.ref a2), some (.int (x3 + 6))], [], h)) rfl ?_
                exact (ih _ _ _ _ _ _ _ _ _ _ _ _ _ _ _ _ _ _ _ _ hF) _ rfl rfl rfl rfl  hsc ha1 ha2 _ hW _ (fun h' p => hQ h' ⟨p.1, A32.trans p.2⟩)
              · replace hF := i_neg b34 hF
                refine en_segs [(290, .iconst 0, [])] (by decide +kernel) (y := (291, [some (.ref sc), some (.ref a1), some (.ref a2), some (.int x3)], [.int 0], h)) rfl ?_
                obtain rfl := Option.some.inj hF
                exact en_ret (by decide +kernel : u_at kl_306 291 = some (.ireturn, [1])) rfl (hQ _ ⟨hW, A32⟩)
            · replace hF := i_neg b29 hF
              by_cases b35 : v2 &&& 63 = 4
              · replace hF := i_pos b35 hF
                refine en_tsC (by decide +kernel : u_at kl_306 33 = some (.tableswitch 1140 0 32 #[147, 210, 233, 246, 259, 292, 325, 358, 391, 424, 483, 496, 519, 568, 581, 614, 647, 690, 704, 727, 740, 763, 786, 799, 842, 885, 928, 962, 985, 1008, 1071, 1094, 1117], [1173, 180, 243, 266, 279, 292, 325, 358, 391, 424, 457, 516, 529, 552, 601, 614, 647, 680, 723, 737, 760, 773, 796, 819, 832, 875, 918, 961, 995, 1018, 1041, 1104, 1127, 1150])) (by rw [b35]; decide) (u := 292) (by rw [b35]; rfl) ?_
                refine en_segs [(292, .aload_n 1, []), (293, .aload_n 0, []), (294, .iload_n 3, []), (295, .iconst 1, []), (296, .iadd, [])] (by decide +kernel) (y := (297, [some (.ref sc), some (.ref a1), some (.ref a2), some (.int x3)], [.int (x3 + 1), .ref sc, .ref a1], h)) rfl ?_
                obtain ⟨v36, hv36, hF⟩ := ob_some hF
                refine en_sld (by decide +kernel : u_at kl_306 297 = some (.iaload, [])) hW hsc hv36 ?_
                refine en_segs [(298, .aload_n 0, []), (299, .iload_n 3, []), (300, .iconst 2, []), (301, .iadd, [])] (by decide +kernel) (y := (302, [some (.ref sc), some (.ref a1), some (.ref a2), some (.int x3)], [.int (x3 + 2), .ref sc, .int v36, .ref a1], h)) rfl ?_
                obtain ⟨v37, hv37, hF⟩ := ob_some hF
                refine en_sld (by decide +kernel : u_at kl_306 302 = some (.iaload, [])) hW hsc hv37 ?_
                obtain ⟨r38, hr38, hF⟩ := ob_some hF
                refine en_vi (r := []) (by decide +kernel : u_at kl_306 303 = some (.invokevirtual 32, [127, 2, 11])) hW ha1 rfl rfl (Nat.le_of_ble_eq_true rfl) (e_127 (D := D) (by omega) hW ha1 hr38) (fun h' q => ?_)
                subst q
                refine en_segs [(306, .aload_n 2, []), (307, .aload_n 0, []), (308, .iload_n 3, []), (309, .iconst 1, []), (310, .iadd, [])] (by decide +kernel) (y := (311, [some (.ref sc), some (.ref a1), some (.ref a2), some (.int x3)], [.int (x3 + 1), .ref sc, .ref a2, .int r38], h)) rfl ?_
                obtain ⟨v39, hv39, hF⟩ := ob_some hF
                refine en_sld (by decide +kernel : u_at kl_306 311 = some (.iaload, [])) hW hsc hv39 ?_
                refine en_segs [(312, .aload_n 0, []), (313, .iload_n 3, []), (314, .iconst 2, []), (315, .iadd, [])] (by decide +kernel) (y := (316, [some (.ref sc), some (.ref a1), some (.ref a2), some (.int x3)], [.int (x3 + 2), .ref sc, .int v39, .ref a2, .int r38], h)) rfl ?_
                obtain ⟨v40, hv40, hF⟩ := ob_some hF
                refine en_sld (by decide +kernel : u_at kl_306 316 = some (.iaload, [])) hW hsc hv40 ?_
                obtain ⟨r41, hr41, hF⟩ := ob_some hF
                refine en_vi (r := [.int r38]) (by decide +kernel : u_at kl_306 317 = some (.invokevirtual 36, [233, 2, 12])) hW ha2 rfl rfl (Nat.le_of_ble_eq_true rfl) (e_233 (D := D) (by omega) hW ha2 hr41) (fun h' q => ?_)
                subst q
                refine en_ic_eq (by decide +kernel : u_at kl_306 320 = some (.if_icmp .eq 853, [1173])) (fun b42 => ?_) (fun b42 => ?_)
                · replace hF := i_pos b42 hF
                  refine en_segs [(1173, .iinc 3 6, []), (1176, .goto (-1158), [18])] (by decide +kernel) (y := (18, [some (.ref sc), some (.ref a1), some (.ref a2), some (.int (x3 + 6))], [], h)) rfl ?_
                  exact (ih _ _ _ _ _ _ _ _ _ _ _ _ _ _ _ _ _ _ _ _ hF) _ rfl rfl rfl rfl  hsc ha1 ha2 _ hW _ hQ
                · replace hF := i_neg b42 hF
                  refine en_segs [(323, .iconst 0, [])] (by decide +kernel) (y := (324, [some (.ref sc), some (.ref a1), some (.ref a2), some (.int x3)], [.int 0], h)) rfl ?_
                  obtain rfl := Option.some.inj hF
                  exact en_ret (by decide +kernel : u_at kl_306 324 = some (.ireturn, [1])) rfl (hQ _ ⟨hW, Adx.rf⟩)
              · replace hF := i_neg b35 hF
                by_cases b43 : v2 &&& 63 = 5
                · replace hF := i_pos b43 hF
                  refine en_tsC (by decide +kernel : u_at kl_306 33 = some (.tableswitch 1140 0 32 #[147, 210, 233, 246, 259, 292, 325, 358, 391, 424, 483, 496, 519, 568, 581, 614, 647, 690, 704, 727, 740, 763, 786, 799, 842, 885, 928, 962, 985, 1008, 1071, 1094, 1117], [1173, 180, 243, 266, 279, 292, 325, 358, 391, 424, 457, 516, 529, 552, 601, 614, 647, 680, 723, 737, 760, 773, 796, 819, 832, 875, 918, 961, 995, 1018, 1041, 1104, 1127, 1150])) (by rw [b43]; decide) (u := 325) (by rw [b43]; rfl) ?_
                  refine en_segs [(325, .aload_n 1, []), (326, .aload_n 0, []), (327, .iload_n 3, []), (328, .iconst 1, []), (329, .iadd, [])] (by decide +kernel) (y := (330, [some (.ref sc), some (.ref a1), some (.ref a2), some (.int x3)], [.int (x3 + 1), .ref sc, .ref a1], h)) rfl ?_
                  obtain ⟨v44, hv44, hF⟩ := ob_some hF
                  refine en_sld (by decide +kernel : u_at kl_306 330 = some (.iaload, [])) hW hsc hv44 ?_
                  refine en_segs [(331, .aload_n 0, []), (332, .iload_n 3, []), (333, .iconst 2, []), (334, .iadd, [])] (by decide +kernel) (y := (335, [some (.ref sc), some (.ref a1), some (.ref a2), some (.int x3)], [.int (x3 + 2), .ref sc, .int v44, .ref a1], h)) rfl ?_
                  obtain ⟨v45, hv45, hF⟩ := ob_some hF
                  refine en_sld (by decide +kernel : u_at kl_306 335 = some (.iaload, [])) hW hsc hv45 ?_
                  obtain ⟨r46, hr46, hF⟩ := ob_some hF
                  refine en_vi (r := []) (by decide +kernel : u_at kl_306 336 = some (.invokevirtual 37, [128, 2, 11])) hW ha1 rfl rfl (Nat.le_of_ble_eq_true rfl) (e_128 (D := D) (by omega) hW ha1 hr46) (fun h' q => ?_)
                  subst q
                  refine en_segs [(339, .aload_n 2, []), (340, .aload_n 0, []), (341, .iload_n 3, []), (342, .iconst 1, []), (343, .iadd, [])] (by decide +kernel) (y := (344, [some (.ref sc), some (.ref a1), some (.ref a2), some (.int x3)], [.int (x3 + 1), .ref sc, .ref a2, .int r46], h)) rfl ?_
                  obtain ⟨v47, hv47, hF⟩ := ob_some hF
                  refine en_sld (by decide +kernel : u_at kl_306 344 = some (.iaload, [])) hW hsc hv47 ?_
                  refine en_segs [(345, .aload_n 0, []), (346, .iload_n 3, []), (347, .iconst 2, []), (348, .iadd, [])] (by decide +kernel) (y := (349, [some (.ref sc), some (.ref a1), some (.ref a2), some (.int x3)], [.int (x3 + 2), .ref sc, .int v47, .ref a2, .int r46], h)) rfl ?_
                  obtain ⟨v48, hv48, hF⟩ := ob_some hF
                  refine en_sld (by decide +kernel : u_at kl_306 349 = some (.iaload, [])) hW hsc hv48 ?_
                  obtain ⟨r49, hr49, hF⟩ := ob_some hF
                  refine en_vi (r := [.int r46]) (by decide +kernel : u_at kl_306 350 = some (.invokevirtual 40, [235, 2, 12])) hW ha2 rfl rfl (Nat.le_of_ble_eq_true rfl) (e_235 (D := D) (by omega) hW ha2 hr49) (fun h' q => ?_)
                  subst q
                  refine en_ic_eq (by decide +kernel : u_at kl_306 353 = some (.if_icmp .eq 820, [1173])) (fun b50 => ?_) (fun b50 => ?_)
                  · replace hF := i_pos b50 hF
                    refine en_segs [(1173, .iinc 3 6, []), (1176, .goto (-1158), [18])] (by decide +kernel) (y := (18, [some (.ref sc), some (.ref a1), some (.ref a2), some (.int (x3 + 6))], [], h)) rfl ?_
                    exact (ih _ _ _ _ _ _ _ _ _ _ _ _ _ _ _ _ _ _ _ _ hF) _ rfl rfl rfl rfl  hsc ha1 ha2 _ hW _ hQ
                  · replace hF := i_neg b50 hF
                    refine en_segs [(356, .iconst 0, [])] (by decide +kernel) (y := (357, [some (.ref sc), some (.ref a1), some (.ref a2), some (.int x3)], [.int 0], h)) rfl ?_
                    obtain rfl := Option.some.inj hF
                    exact en_ret (by decide +kernel : u_at kl_306 357 = some (.ireturn, [1])) rfl (hQ _ ⟨hW, Adx.rf⟩)
                · replace hF := i_neg b43 hF
                  by_cases b51 : v2 &&& 63 = 6
                  · replace hF := i_pos b51 hF
                    refine en_tsC (by decide +kernel : u_at kl_306 33 = some (.tableswitch 1140 0 32 #[147, 210, 233, 246, 259, 292, 325, 358, 391, 424, 483, 496, 519, 568, 581, 614, 647, 690, 704, 727, 740, 763, 786, 799, 842, 885, 928, 962, 985, 1008, 1071, 1094, 1117], [1173, 180, 243, 266, 279, 292, 325, 358, 391, 424, 457, 516, 529, 552, 601, 614, 647, 680, 723, 737, 760, 773, 796, 819, 832, 875, 918, 961, 995, 1018, 1041, 1104, 1127, 1150])) (by rw [b51]; decide) (u := 358) (by rw [b51]; rfl) ?_
                    refine en_segs [(358, .aload_n 1, []), (359, .aload_n 0, []), (360, .iload_n 3, []), (361, .iconst 1, []), (362, .iadd, [])] (by decide +kernel) (y := (363, [some (.ref sc), some (.ref a1), some (.ref a2), some (.int x3)], [.int (x3 + 1), .ref sc, .ref a1], h)) rfl ?_
                    obtain ⟨v52, hv52, hF⟩ := ob_some hF
                    refine en_sld (by decide +kernel : u_at kl_306 363 = some (.iaload, [])) hW hsc hv52 ?_
                    refine en_segs [(364, .aload_n 0, []), (365, .iload_n 3, []), (366, .iconst 2, []), (367, .iadd, [])] (by decide +kernel) (y := (368, [some (.ref sc), some (.ref a1), some (.ref a2), some (.int x3)], [.int (x3 + 2), .ref sc, .int v52, .ref a1], h)) rfl ?_
                    obtain ⟨v53, hv53, hF⟩ := ob_some hF
                    refine en_sld (by decide +kernel : u_at kl_306 368 = some (.iaload, [])) hW hsc hv53 ?_
                    obtain ⟨r54, hr54, hF⟩ := ob_some hF
                    refine en_vi (r := []) (by decide +kernel : u_at kl_306 369 = some (.invokevirtual 41, [129, 2, 11])) hW ha1 rfl rfl (Nat.le_of_ble_eq_true rfl) (e_129 (D := D) (by omega) hW ha1 hr54) (fun h' q => ?_)
                    subst q
                    refine en_segs [(372, .aload_n 2, []), (373, .aload_n 0, []), (374, .iload_n 3, []), (375, .iconst 1, []), (376, .iadd, [])] (by decide +kernel) (y := (377, [some (.ref sc), some (.ref a1), some (.ref a2), some (.int x3)], [.int (x3 + 1), .ref sc, .ref a2, .int r54], h)) rfl ?_
                    obtain ⟨v55, hv55, hF⟩ := ob_some hF
                    refine en_sld (by decide +kernel : u_at kl_306 377 = some (.iaload, [])) hW hsc hv55 ?_
                    refine en_segs [(378, .aload_n 0, []), (379, .iload_n 3, []), (380, .iconst 2, []), (381, .iadd, [])] (by decide +kernel) (y := (382, [some (.ref sc), some (.ref a1), some (.ref a2), some (.int x3)], [.int (x3 + 2), .ref sc, .int v55, .ref a2, .int r54], h)) rfl ?_
                    obtain ⟨v56, hv56, hF⟩ := ob_some hF
                    refine en_sld (by decide +kernel : u_at kl_306 382 = some (.iaload, [])) hW hsc hv56 ?_
                    obtain ⟨r57, hr57, hF⟩ := ob_some hF
                    refine en_vi (r := [.int r54]) (by decide +kernel : u_at kl_306 383 = some (.invokevirtual 44, [236, 2, 12])) hW ha2 rfl rfl (Nat.le_of_ble_eq_true rfl) (e_236 (D := D) (by omega) hW ha2 hr57) (fun h' q => ?_)
                    subst q
                    refine en_ic_eq (by decide +kernel : u_at kl_306 386 = some (.if_icmp .eq 787, [1173])) (fun b58 => ?_) (fun b58 => ?_)
                    · replace hF := i_pos b58 hF
                      refine en_segs [(1173, .iinc 3 6, []), (1176, .goto (-1158), [18])] (by decide +kernel) (y := (18, [some (.ref sc), some (.ref a1), some (.ref a2), some (.int (x3 + 6))], [], h)) rfl ?_
                      exact (ih _ _ _ _ _ _ _ _ _ _ _ _ _ _ _ _ _ _ _ _ hF) _ rfl rfl rfl rfl  hsc ha1 ha2 _ hW _ hQ
                    · replace hF := i_neg b58 hF
                      refine en_segs [(389, .iconst 0, [])] (by decide +kernel) (y := (390, [some (.ref sc), some (.ref a1), some (.ref a2), some (.int x3)], [.int 0], h)) rfl ?_
                      obtain rfl := Option.some.inj hF
                      exact en_ret (by decide +kernel : u_at kl_306 390 = some (.ireturn, [1])) rfl (hQ _ ⟨hW, Adx.rf⟩)
                  · replace hF := i_neg b51 hF
                    by_cases b59 : v2 &&& 63 = 7
                    · replace hF := i_pos b59 hF
                      refine en_tsC (by decide +kernel : u_at kl_306 33 = some (.tableswitch 1140 0 32 #[147, 210, 233, 246, 259, 292, 325, 358, 391, 424, 483, 496, 519, 568, 581, 614, 647, 690, 704, 727, 740, 763, 786, 799, 842, 885, 928, 962, 985, 1008, 1071, 1094, 1117], [1173, 180, 243, 266, 279, 292, 325, 358, 391, 424, 457, 516, 529, 552, 601, 614, 647, 680, 723, 737, 760, 773, 796, 819, 832, 875, 918, 961, 995, 1018, 1041, 1104, 1127, 1150])) (by rw [b59]; decide) (u := 391) (by rw [b59]; rfl) ?_
                      refine en_segs [(391, .aload_n 1, []), (392, .aload_n 0, []), (393, .iload_n 3, []), (394, .iconst 1, []), (395, .iadd, [])] (by decide +kernel) (y := (396, [some (.ref sc), some (.ref a1), some (.ref a2), some (.int x3)], [.int (x3 + 1), .ref sc, .ref a1], h)) rfl ?_
                      obtain ⟨v60, hv60, hF⟩ := ob_some hF
                      refine en_sld (by decide +kernel : u_at kl_306 396 = some (.iaload, [])) hW hsc hv60 ?_
                      refine en_segs [(397, .aload_n 0, []), (398, .iload_n 3, []), (399, .iconst 2, []), (400, .iadd, [])] (by decide +kernel) (y := (401, [some (.ref sc), some (.ref a1), some (.ref a2), some (.int x3)], [.int (x3 + 2), .ref sc, .int v60, .ref a1], h)) rfl ?_
                      obtain ⟨v61, hv61, hF⟩ := ob_some hF
                      refine en_sld (by decide +kernel : u_at kl_306 401 = some (.iaload, [])) hW hsc hv61 ?_
                      obtain ⟨r62, hr62, hF⟩ := ob_some hF
                      refine en_vi (r := []) (by decide +kernel : u_at kl_306 402 = some (.invokevirtual 45, [130, 2, 11])) hW ha1 rfl rfl (Nat.le_of_ble_eq_true rfl) (e_130 (D := D) (by omega) hW ha1 hr62) (fun h' q => ?_)
                      subst q
                      refine en_segs [(405, .aload_n 2, []), (406, .aload_n 0, []), (407, .iload_n 3, []), (408, .iconst 1, []), (409, .iadd, [])] (by decide +kernel) (y := (410, [some (.ref sc), some (.ref a1), some (.ref a2), some (.int x3)], [.int (x3 + 1), .ref sc, .ref a2, .int r62], h)) rfl ?_
                      obtain ⟨v63, hv63, hF⟩ := ob_some hF
                      refine en_sld (by decide +kernel : u_at kl_306 410 = some (.iaload, [])) hW hsc hv63 ?_
                      refine en_segs [(411, .aload_n 0, []), (412, .iload_n 3, []), (413, .iconst 2, []), (414, .iadd, [])] (by decide +kernel) (y := (415, [some (.ref sc), some (.ref a1), some (.ref a2), some (.int x3)], [.int (x3 + 2), .ref sc, .int v63, .ref a2, .int r62], h)) rfl ?_
                      obtain ⟨v64, hv64, hF⟩ := ob_some hF
                      refine en_sld (by decide +kernel : u_at kl_306 415 = some (.iaload, [])) hW hsc hv64 ?_
                      obtain ⟨r65, hr65, hF⟩ := ob_some hF
                      refine en_vi (r := [.int r62]) (by decide +kernel : u_at kl_306 416 = some (.invokevirtual 48, [237, 2, 12])) hW ha2 rfl rfl (Nat.le_of_ble_eq_true rfl) (e_237 (D := D) (by omega) hW ha2 hr65) (fun h' q => ?_)
                      subst q
                      refine en_ic_eq (by decide +kernel : u_at kl_306 419 = some (.if_icmp .eq 754, [1173])) (fun b66 => ?_) (fun b66 => ?_)
                      · replace hF := i_pos b66 hF
                        refine en_segs [(1173, .iinc 3 6, []), (1176, .goto (-1158), [18])] (by decide +kernel) (y := (18, [some (.ref sc), some (.ref a1), some (.ref a2), some (.int (x3 + 6))], [], h)) rfl ?_
                        exact (ih _ _ _ _ _ _ _ _ _ _ _ _ _ _ _ _ _ _ _ _ hF) _ rfl rfl rfl rfl  hsc ha1 ha2 _ hW _ hQ
                      · replace hF := i_neg b66 hF
                        refine en_segs [(422, .iconst 0, [])] (by decide +kernel) (y := (423, [some (.ref sc), some (.ref a1), some (.ref a2), some (.int x3)], [.int 0], h)) rfl ?_
                        obtain rfl := Option.some.inj hF
                        exact en_ret (by decide +kernel : u_at kl_306 423 = some (.ireturn, [1])) rfl (hQ _ ⟨hW, Adx.rf⟩)
                    · replace hF := i_neg b59 hF
                      by_cases b67 : v2 &&& 63 = 8
                      · replace hF := i_pos b67 hF
                        refine en_tsC (by decide +kernel : u_at kl_306 33 = some (.tableswitch 1140 0 32 #[147, 210, 233, 246, 259, 292, 325, 358, 391, 424, 483, 496, 519, 568, 581, 614, 647, 690, 704, 727, 740, 763, 786, 799, 842, 885, 928, 962, 985, 1008, 1071, 1094, 1117], [1173, 180, 243, 266, 279, 292, 325, 358, 391, 424, 457, 516, 529, 552, 601, 614, 647, 680, 723, 737, 760, 773, 796, 819, 832, 875, 918, 961, 995, 1018, 1041, 1104, 1127, 1150])) (by rw [b67]; decide) (u := 424) (by rw [b67]; rfl) ?_
                        refine en_segs [(424, .aload_n 1, []), (425, .aload_n 0, []), (426, .iload_n 3, []), (427, .iconst 1, []), (428, .iadd, [])] (by decide +kernel) (y := (429, [some (.ref sc), some (.ref a1), some (.ref a2), some (.int x3)], [.int (x3 + 1), .ref sc, .ref a1], h)) rfl ?_
                        obtain ⟨v68, hv68, hF⟩ := ob_some hF
                        refine en_sld (by decide +kernel : u_at kl_306 429 = some (.iaload, [])) hW hsc hv68 ?_
                        refine en_segs [(430, .aload_n 0, []), (431, .iload_n 3, []), (432, .iconst 2, []), (433, .iadd, [])] (by decide +kernel) (y := (434, [some (.ref sc), some (.ref a1), some (.ref a2), some (.int x3)], [.int (x3 + 2), .ref sc, .int v68, .ref a1], h)) rfl ?_
                        obtain ⟨v69, hv69, hF⟩ := ob_some hF
                        refine en_sld (by decide +kernel : u_at kl_306 434 = some (.iaload, [])) hW hsc hv69 ?_
                        obtain ⟨r70, hr70, hF⟩ := ob_some hF
                        refine en_vi (r := []) (by decide +kernel : u_at kl_306 435 = some (.invokevirtual 49, [131, 2, 11])) hW ha1 rfl rfl (Nat.le_of_ble_eq_true rfl) (e_131 (D := D) (by omega) hW ha1 hr70) (fun h' q => ?_)
                        subst q
                        refine en_segs [(438, .aload_n 2, []), (439, .aload_n 0, []), (440, .iload_n 3, []), (441, .iconst 1, []), (442, .iadd, [])] (by decide +kernel) (y := (443, [some (.ref sc), some (.ref a1), some (.ref a2), some (.int x3)], [.int (x3 + 1), .ref sc, .ref a2, .int r70], h)) rfl ?_
                        obtain ⟨v71, hv71, hF⟩ := ob_some hF
                        refine en_sld (by decide +kernel : u_at kl_306 443 = some (.iaload, [])) hW hsc hv71 ?_
                        refine en_segs [(444, .aload_n 0, []), (445, .iload_n 3, []), (446, .iconst 2, []), (447, .iadd, [])] (by decide +kernel) (y := (448, [some (.ref sc), some (.ref a1), some (.ref a2), some (.int x3)], [.int (x3 + 2), .ref sc, .int v71, .ref a2, .int r70], h)) rfl ?_
                        obtain ⟨v72, hv72, hF⟩ := ob_some hF
                        refine en_sld (by decide +kernel : u_at kl_306 448 = some (.iaload, [])) hW hsc hv72 ?_
                        obtain ⟨r73, hr73, hF⟩ := ob_some hF
                        refine en_vi (r := [.int r70]) (by decide +kernel : u_at kl_306 449 = some (.invokevirtual 52, [238, 2, 12])) hW ha2 rfl rfl (Nat.le_of_ble_eq_true rfl) (e_238 (D := D) (by omega) hW ha2 hr73) (fun h' q => ?_)
                        subst q
                        refine en_ic_eq (by decide +kernel : u_at kl_306 452 = some (.if_icmp .eq 721, [1173])) (fun b74 => ?_) (fun b74 => ?_)
                        · replace hF := i_pos b74 hF
                          refine en_segs [(1173, .iinc 3 6, []), (1176, .goto (-1158), [18])] (by decide +kernel) (y := (18, [some (.ref sc), some (.ref a1), some (.ref a2), some (.int (x3 + 6))], [], h)) rfl ?_
                          exact (ih _ _ _ _ _ _ _ _ _ _ _ _ _ _ _ _ _ _ _ _ hF) _ rfl rfl rfl rfl  hsc ha1 ha2 _ hW _ hQ
                        · replace hF := i_neg b74 hF
                          refine en_segs [(455, .iconst 0, [])] (by decide +kernel) (y := (456, [some (.ref sc), some (.ref a1), some (.ref a2), some (.int x3)], [.int 0], h)) rfl ?_
                          obtain rfl := Option.some.inj hF
                          exact en_ret (by decide +kernel : u_at kl_306 456 = some (.ireturn, [1])) rfl (hQ _ ⟨hW, Adx.rf⟩)
                      · replace hF := i_neg b67 hF
                        by_cases b75 : v2 &&& 63 = 9
                        · replace hF := i_pos b75 hF
                          refine en_tsC (by decide +kernel : u_at kl_306 33 = some (.tableswitch 1140 0 32 #[147, 210, 233, 246, 259, 292, 325, 358, 391, 424, 483, 496, 519, 568, 581, 614, 647, 690, 704, 727, 740, 763, 786, 799, 842, 885, 928, 962, 985, 1008, 1071, 1094, 1117], [1173, 180, 243, 266, 279, 292, 325, 358, 391, 424, 457, 516, 529, 552, 601, 614, 647, 680, 723, 737, 760, 773, 796, 819, 832, 875, 918, 961, 995, 1018, 1041, 1104, 1127, 1150])) (by rw [b75]; decide) (u := 457) (by rw [b75]; rfl) ?_
                          refine en_segs [(457, .aload_n 1, []), (458, .aload_n 0, []), (459, .iload_n 3, []), (460, .iconst 1, []), (461, .iadd, [])] (by decide +kernel) (y := (462, [some (.ref sc), some (.ref a1), some (.ref a2), some (.int x3)], [.int (x3 + 1), .ref sc, .ref a1], h)) rfl ?_
                          obtain ⟨v76, hv76, hF⟩ := ob_some hF
                          refine en_sld (by decide +kernel : u_at kl_306 462 = some (.iaload, [])) hW hsc hv76 ?_
                          refine en_segs [(463, .aload_n 0, []), (464, .iload_n 3, []), (465, .iconst 2, []), (466, .iadd, [])] (by decide +kernel) (y := (467, [some (.ref sc), some (.ref a1), some (.ref a2), some (.int x3)], [.int (x3 + 2), .ref sc, .int v76, .ref a1], h)) rfl ?_
                          obtain ⟨v77, hv77, hF⟩ := ob_some hF
                          refine en_sld (by decide +kernel : u_at kl_306 467 = some (.iaload, [])) hW hsc hv77 ?_
                          refine en_segs [(468, .aload_n 0, []), (469, .iload_n 3, []), (470, .iconst 3, []), (471, .iadd, [])] (by decide +kernel) (y := (472, [some (.ref sc), some (.ref a1), some (.ref a2), some (.int x3)], [.int (x3 + 3), .ref sc, .int v77, .int v76, .ref a1], h)) rfl ?_
                          obtain ⟨v78, hv78, hF⟩ := ob_some hF
                          refine en_sld (by decide +kernel : u_at kl_306 472 = some (.iaload, [])) hW hsc hv78 ?_
                          obtain ⟨t79, hX, hK⟩ := ob_some hF
                          have j80 : ∀ h : UH, HW (mkw c0 c1 c2 c3 c4 c5 c6 c7 c8 c9 c10 c11 c12 c13) d h → Ends (EX D) (u_at kl_306) (481, [some (.ref sc), some (.ref a1), some (.ref a2), some (.int x3)], [.int t79, .int v77, .int v76, .ref a1], h) QQ := by
                            intro h hW
                            have hF := hK
                            obtain ⟨r81, hr81, hF⟩ := ob_some hF
                            refine en_vi (r := []) (by decide +kernel : u_at kl_306 481 = some (.invokevirtual 53, [132, 3, 11])) hW ha1 rfl rfl (Nat.le_of_ble_eq_true rfl) (e_132 (D := D) (by omega) hW ha1 hr81) (fun h hW => ?_)
                            have hW : HW (mkw c0 c1 c2 c3 c4 c5 c6 r81.2.1 r81.2.2.1 c9 r81.2.2.2 c11 c12 c13) d h := hW
                            refine en_segs [(484, .aload_n 2, []), (485, .aload_n 0, []), (486, .iload_n 3, []), (487, .iconst 1, []), (488, .iadd, [])] (by decide +kernel) (y := (489, [some (.ref sc), some (.ref a1), some (.ref a2), some (.int x3)], [.int (x3 + 1), .ref sc, .ref a2, .int r81.1], h)) rfl ?_
                            obtain ⟨v82, hv82, hF⟩ := ob_some hF
                            refine en_sld (by decide +kernel : u_at kl_306 489 = some (.iaload, [])) hW hsc hv82 ?_
                            refine en_segs [(490, .aload_n 0, []), (491, .iload_n 3, []), (492, .iconst 2, []), (493, .iadd, [])] (by decide +kernel) (y := (494, [some (.ref sc), some (.ref a1), some (.ref a2), some (.int x3)], [.int (x3 + 2), .ref sc, .int v82, .ref a2, .int r81.1], h)) rfl ?_
                            obtain ⟨v83, hv83, hF⟩ := ob_some hF
                            refine en_sld (by decide +kernel : u_at kl_306 494 = some (.iaload, [])) hW hsc hv83 ?_
                            refine en_segs [(495, .aload_n 0, []), (496, .iload_n 3, []), (497, .iconst 3, []), (498, .iadd, [])] (by decide +kernel) (y := (499, [some (.ref sc), some (.ref a1), some (.ref a2), some (.int x3)], [.int (x3 + 3), .ref sc, .int v83, .int v82, .ref a2, .int r81.1], h)) rfl ?_
                            obtain ⟨v84, hv84, hF⟩ := ob_some hF
                            refine en_sld (by decide +kernel : u_at kl_306 499 = some (.iaload, [])) hW hsc hv84 ?_
                            obtain ⟨t85, hX, hK⟩ := ob_some hF
                            have j86 : ∀ h : UH, HW (mkw c0 c1 c2 c3 c4 c5 c6 r81.2.1 r81.2.2.1 c9 r81.2.2.2 c11 c12 c13) d h → Ends (EX D) (u_at kl_306) (508, [some (.ref sc), some (.ref a1), some (.ref a2), some (.int x3)], [.int t85, .int v83, .int v82, .ref a2, .int r81.1], h) QQ := by
                              intro h hW
                              have hF := hK
                              obtain ⟨r87, hr87, hF⟩ := ob_some hF
                              refine en_vi (r := [.int r81.1]) (by decide +kernel : u_at kl_306 508 = some (.invokevirtual 57, [245, 3, 12])) hW ha2 rfl rfl (Nat.le_of_ble_eq_true rfl) (e_245 (D := D) (by omega) hW ha2 hr87) (fun h hW => ?_)
                              have hW : HW (mkw c0 c1 c2 c3 c4 c5 c6 r81.2.1 r81.2.2.1 c9 r81.2.2.2 c11 r87.2 c13) d h := hW
                              refine en_ic_eq (by decide +kernel : u_at kl_306 511 = some (.if_icmp .eq 662, [1173])) (fun b88 => ?_) (fun b88 => ?_)
                              · replace hF := i_pos b88 hF
                                refine en_segs [(1173, .iinc 3 6, []), (1176, .goto (-1158), [18])] (by decide +kernel) (y := (18, [some (.ref sc), some (.ref a1), some (.ref a2), some (.int (x3 + 6))], [], h)) rfl ?_
                                exact (ih _ _ _ _ _ _ _ _ _ _ _ _ _ _ _ _ _ _ _ _ hF) _ rfl rfl rfl rfl  hsc ha1 ha2 _ hW _ hQ
                              · replace hF := i_neg b88 hF
                                refine en_segs [(514, .iconst 0, [])] (by decide +kernel) (y := (515, [some (.ref sc), some (.ref a1), some (.ref a2), some (.int x3)], [.int 0], h)) rfl ?_
                                obtain rfl := Option.some.inj hF
                                exact en_ret (by decide +kernel : u_at kl_306 515 = some (.ireturn, [1])) rfl (hQ _ ⟨hW, Adx.rf⟩)
                            have hF := hX
                            refine en_if_eq (by decide +kernel : u_at kl_306 500 = some (.ifCond .eq 7, [507])) (fun b89 => ?_) (fun b89 => ?_)
                            · replace hF := i_pos b89 hF
                              refine en_segs [(507, .iconst 0, [])] (by decide +kernel) (y := (508, [some (.ref sc), some (.ref a1), some (.ref a2), some (.int x3)], [.int 0, .int v83, .int v82, .ref a2, .int r81.1], h)) rfl ?_
                              obtain rfl := Option.some.inj hF
                              exact j86 _ hW
                            · replace hF := i_neg b89 hF
                              refine en_segs [(503, .iconst 1, []), (504, .goto 4, [508])] (by decide +kernel) (y := (508, [some (.ref sc), some (.ref a1), some (.ref a2), some (.int x3)], [.int 1, .int v83, .int v82, .ref a2, .int r81.1], h)) rfl ?_
                              obtain rfl := Option.some.inj hF
                              exact j86 _ hW
                          have hF := hX
                          refine en_if_eq (by decide +kernel : u_at kl_306 473 = some (.ifCond .eq 7, [480])) (fun b90 => ?_) (fun b90 => ?_)
                          · replace hF := i_pos b90 hF
                            refine en_segs [(480, .iconst 0, [])] (by decide +kernel) (y := (481, [some (.ref sc), some (.ref a1), some (.ref a2), some (.int x3)], [.int 0, .int v77, .int v76, .ref a1], h)) rfl ?_
                            obtain rfl := Option.some.inj hF
                            exact j80 _ hW
                          · replace hF := i_neg b90 hF
                            refine en_segs [(476, .iconst 1, []), (477, .goto 4, [481])] (by decide +kernel) (y := (481, [some (.ref sc), some (.ref a1), some (.ref a2), some (.int x3)], [.int 1, .int v77, .int v76, .ref a1], h)) rfl ?_
                            obtain rfl := Option.some.inj hF
                            exact j80 _ hW
                        · replace hF := i_neg b75 hF
                          by_cases b91 : v2 &&& 63 = 10
                          · replace hF := i_pos b91 hF
                            refine en_tsC (by decide +kernel : u_at kl_306 33 = some (.tableswitch 1140 0 32 #[147, 210, 233, 246, 259, 292, 325, 358, 391, 424, 483, 496, 519, 568, 581, 614, 647, 690, 704, 727, 740, 763, 786, 799, 842, 885, 928, 962, 985, 1008, 1071, 1094, 1117], [1173, 180, 243, 266, 279, 292, 325, 358, 391, 424, 457, 516, 529, 552, 601, 614, 647, 680, 723, 737, 760, 773, 796, 819, 832, 875, 918, 961, 995, 1018, 1041, 1104, 1127, 1150])) (by rw [b91]; decide) (u := 516) (by rw [b91]; rfl) ?_
                            refine en_segs [(516, .aload_n 1, [])] (by decide +kernel) (y := (517, [some (.ref sc), some (.ref a1), some (.ref a2), some (.int x3)], [.ref a1], h)) rfl ?_
                            obtain ⟨r92, hr92, hF⟩ := ob_some hF
                            refine en_vi (r := []) (by decide +kernel : u_at kl_306 517 = some (.invokevirtual 58, [133, 0, 11])) hW ha1 rfl rfl (Nat.le_of_ble_eq_true rfl) (e_133 (D := D) (by omega) hW ha1 hr92) (fun h hW => ?_)
                            have hW : HW (mkw c0 c1 c2 c3 c4 c5 c6 c7 r92.2.1 c9 r92.2.2 c11 c12 c13) d h := hW
                            refine en_segs [(520, .aload_n 2, [])] (by decide +kernel) (y := (521, [some (.ref sc), some (.ref a1), some (.ref a2), some (.int x3)], [.ref a2, .int r92.1], h)) rfl ?_
                            obtain ⟨r93, hr93, hF⟩ := ob_some hF
                            refine en_vi (r := [.int r92.1]) (by decide +kernel : u_at kl_306 521 = some (.invokevirtual 61, [246, 0, 12])) hW ha2 rfl rfl (Nat.le_of_ble_eq_true rfl) (e_246 (D := D) (by omega) hW ha2 hr93) (fun h hW => ?_)
                            have hW : HW (mkw c0 c1 c2 c3 c4 c5 c6 c7 r92.2.1 c9 r92.2.2 c11 r93.2 c13) d h := hW
                            refine en_ic_eq (by decide +kernel : u_at kl_306 524 = some (.if_icmp .eq 649, [1173])) (fun b94 => ?_) (fun b94 => ?_)
                            · replace hF := i_pos b94 hF
                              refine en_segs [(1173, .iinc 3 6, []), (1176, .goto (-1158), [18])] (by decide +kernel) (y := (18, [some (.ref sc), some (.ref a1), some (.ref a2), some (.int (x3 + 6))], [], h)) rfl ?_
                              exact (ih _ _ _ _ _ _ _ _ _ _ _ _ _ _ _ _ _ _ _ _ hF) _ rfl rfl rfl rfl  hsc ha1 ha2 _ hW _ hQ
                            · replace hF := i_neg b94 hF
                              refine en_segs [(527, .iconst 0, [])] (by decide +kernel) (y := (528, [some (.ref sc), some (.ref a1), some (.ref a2), some (.int x3)], [.int 0], h)) rfl ?_
                              obtain rfl := Option.some.inj hF
                              exact en_ret (by decide +kernel : u_at kl_306 528 = some (.ireturn, [1])) rfl (hQ _ ⟨hW, Adx.rf⟩)
                          · replace hF := i_neg b91 hF
                            by_cases b95 : v2 &&& 63 = 11
                            · replace hF := i_pos b95 hF
                              refine en_tsC (by decide +kernel : u_at kl_306 33 = some (.tableswitch 1140 0 32 #[147, 210, 233, 246, 259, 292, 325, 358, 391, 424, 483, 496, 519, 568, 581, 614, 647, 690, 704, 727, 740, 763, 786, 799, 842, 885, 928, 962, 985, 1008, 1071, 1094, 1117], [1173, 180, 243, 266, 279, 292, 325, 358, 391, 424, 457, 516, 529, 552, 601, 614, 647, 680, 723, 737, 760, 773, 796, 819, 832, 875, 918, 961, 995, 1018, 1041, 1104, 1127, 1150])) (by rw [b95]; decide) (u := 529) (by rw [b95]; rfl) ?_
                              refine en_segs [(529, .aload_n 1, []), (530, .aload_n 0, []), (531, .iload_n 3, []), (532, .iconst 1, []), (533, .iadd, [])] (by decide +kernel) (y := (534, [some (.ref sc), some (.ref a1), some (.ref a2), some (.int x3)], [.int (x3 + 1), .ref sc, .ref a1], h)) rfl ?_
                              obtain ⟨v96, hv96, hF⟩ := ob_some hF
                              refine en_sld (by decide +kernel : u_at kl_306 534 = some (.iaload, [])) hW hsc hv96 ?_
                              obtain ⟨r97, hr97, hF⟩ := ob_some hF
                              refine en_vi (r := []) (by decide +kernel : u_at kl_306 535 = some (.invokevirtual 62, [134, 1, 11])) hW ha1 rfl rfl (Nat.le_of_ble_eq_true rfl) (e_134 (D := D) (by omega) hW ha1 hr97) (fun h hW => ?_)
                              have hW : HW (mkw c0 c1 c2 c3 c4 c5 c6 r97.2.1 r97.2.2 c9 c10 c11 c12 c13) d h := hW
                              refine en_segs [(538, .aload_n 2, []), (539, .aload_n 0, []), (540, .iload_n 3, []), (541, .iconst 1, []), (542, .iadd, [])] (by decide +kernel) (y := (543, [some (.ref sc), some (.ref a1), some (.ref a2), some (.int x3)], [.int (x3 + 1), .ref sc, .ref a2, .int r97.1], h)) rfl ?_
                              obtain ⟨v98, hv98, hF⟩ := ob_some hF
                              refine en_sld (by decide +kernel : u_at kl_306 543 = some (.iaload, [])) hW hsc hv98 ?_
                              obtain ⟨r99, hr99, hF⟩ := ob_some hF
                              refine en_vi (r := [.int r97.1]) (by decide +kernel : u_at kl_306 544 = some (.invokevirtual 66, [247, 1, 12])) hW ha2 rfl rfl (Nat.le_of_ble_eq_true rfl) (e_247 (D := D) (by omega) hW ha2 hr99) (fun h hW => ?_)
                              have hW : HW (mkw c0 c1 c2 c3 c4 c5 c6 r97.2.1 r97.2.2 c9 c10 c11 r99.2 c13) d h := hW
                              refine en_ic_eq (by decide +kernel : u_at kl_306 547 = some (.if_icmp .eq 626, [1173])) (fun b100 => ?_) (fun b100 => ?_)
                              · replace hF := i_pos b100 hF
                                refine en_segs [(1173, .iinc 3 6, []), (1176, .goto (-1158), [18])] (by decide +kernel) (y := (18, [some (.ref sc), some (.ref a1), some (.ref a2), some (.int (x3 + 6))], [], h)) rfl ?_
                                exact (ih _ _ _ _ _ _ _ _ _ _ _ _ _ _ _ _ _ _ _ _ hF) _ rfl rfl rfl rfl  hsc ha1 ha2 _ hW _ hQ
                              · replace hF := i_neg b100 hF
                                refine en_segs [(550, .iconst 0, [])] (by decide +kernel) (y := (551, [some (.ref sc), some (.ref a1), some (.ref a2), some (.int x3)], [.int 0], h)) rfl ?_
                                obtain rfl := Option.some.inj hF
                                exact en_ret (by decide +kernel : u_at kl_306 551 = some (.ireturn, [1])) rfl (hQ _ ⟨hW, Adx.rf⟩)
                            · replace hF := i_neg b95 hF
                              by_cases b101 : v2 &&& 63 = 12
                              · replace hF := i_pos b101 hF
                                refine en_tsC (by decide +kernel : u_at kl_306 33 = some (.tableswitch 1140 0 32 #[147, 210, 233, 246, 259, 292, 325, 358, 391, 424, 483, 496, 519, 568, 581, 614, 647, 690, 704, 727, 740, 763, 786, 799, 842, 885, 928, 962, 985, 1008, 1071, 1094, 1117], [1173, 180, 243, 266, 279, 292, 325, 358, 391, 424, 457, 516, 529, 552, 601, 614, 647, 680, 723, 737, 760, 773, 796, 819, 832, 875, 918, 961, 995, 1018, 1041, 1104, 1127, 1150])) (by rw [b101]; decide) (u := 552) (by rw [b101]; rfl) ?_
                                refine en_segs [(552, .aload_n 1, []), (553, .aload_n 0, []), (554, .iload_n 3, []), (555, .iconst 1, []), (556, .iadd, [])] (by decide +kernel) (y := (557, [some (.ref sc), some (.ref a1), some (.ref a2), some (.int x3)], [.int (x3 + 1), .ref sc, .ref a1], h)) rfl ?_
                                obtain ⟨v102, hv102, hF⟩ := ob_some hF
                                refine en_sld (by decide +kernel : u_at kl_306 557 = some (.iaload, [])) hW hsc hv102 ?_
                                refine en_segs [(558, .aload_n 0, []), (559, .iload_n 3, []), (560, .iconst 2, []), (561, .iadd, [])] (by decide +kernel) (y := (562, [some (.ref sc), some (.ref a1), some (.ref a2), some (.int x3)], [.int (x3 + 2), .ref sc, .int v102, .ref a1], h)) rfl ?_
                                obtain ⟨v103, hv103, hF⟩ := ob_some hF
                                refine en_sld (by decide +kernel : u_at kl_306 562 = some (.iaload, [])) hW hsc hv103 ?_
                                obtain ⟨t104, hX, hK⟩ := ob_some hF
                                have j105 : ∀ h : UH, HW (mkw c0 c1 c2 c3 c4 c5 c6 c7 c8 c9 c10 c11 c12 c13) d h → Ends (EX D) (u_at kl_306) (571, [some (.ref sc), some (.ref a1), some (.ref a2), some (.int x3)], [.int t104, .int v102, .ref a1], h) QQ := by
                                  intro h hW
                                  have hF := hK
                                  obtain ⟨r106, hr106, hF⟩ := ob_some hF
                                  refine en_vi (r := []) (by decide +kernel : u_at kl_306 571 = some (.invokevirtual 67, [135, 2, 11])) hW ha1 rfl rfl (Nat.le_of_ble_eq_true rfl) (e_135 (D := D) (by omega) hW ha1 hr106) (fun h hW => ?_)
                                  have hW : HW (mkw c0 c1 c2 c3 c4 c5 c6 r106.2.1 r106.2.2 c9 c10 c11 c12 c13) d h := hW
                                  refine en_segs [(574, .aload_n 2, []), (575, .aload_n 0, []), (576, .iload_n 3, []), (577, .iconst 1, []), (578, .iadd, [])] (by decide +kernel) (y := (579, [some (.ref sc), some (.ref a1), some (.ref a2), some (.int x3)], [.int (x3 + 1), .ref sc, .ref a2, .int r106.1], h)) rfl ?_
                                  obtain ⟨v107, hv107, hF⟩ := ob_some hF
                                  refine en_sld (by decide +kernel : u_at kl_306 579 = some (.iaload, [])) hW hsc hv107 ?_
                                  refine en_segs [(580, .aload_n 0, []), (581, .iload_n 3, []), (582, .iconst 2, []), (583, .iadd, [])] (by decide +kernel) (y := (584, [some (.ref sc), some (.ref a1), some (.ref a2), some (.int x3)], [.int (x3 + 2), .ref sc, .int v107, .ref a2, .int r106.1], h)) rfl ?_
                                  obtain ⟨v108, hv108, hF⟩ := ob_some hF
                                  refine en_sld (by decide +kernel : u_at kl_306 584 = some (.iaload, [])) hW hsc hv108 ?_
                                  obtain ⟨t109, hX, hK⟩ := ob_some hF
                                  have j110 : ∀ h : UH, HW (mkw c0 c1 c2 c3 c4 c5 c6 r106.2.1 r106.2.2 c9 c10 c11 c12 c13) d h → Ends (EX D) (u_at kl_306) (593, [some (.ref sc), some (.ref a1), some (.ref a2), some (.int x3)], [.int t109, .int v107, .ref a2, .int r106.1], h) QQ := by
                                    intro h hW
                                    have hF := hK
                                    obtain ⟨r111, hr111, hF⟩ := ob_some hF
                                    refine en_vi (r := [.int r106.1]) (by decide +kernel : u_at kl_306 593 = some (.invokevirtual 71, [248, 2, 12])) hW ha2 rfl rfl (Nat.le_of_ble_eq_true rfl) (e_248 (D := D) (by omega) hW ha2 hr111) (fun h hW => ?_)
                                    have hW : HW (mkw c0 c1 c2 c3 c4 c5 c6 r106.2.1 r106.2.2 c9 c10 c11 r111.2 c13) d h := hW
                                    refine en_ic_eq (by decide +kernel : u_at kl_306 596 = some (.if_icmp .eq 577, [1173])) (fun b112 => ?_) (fun b112 => ?_)
                                    · replace hF := i_pos b112 hF
                                      refine en_segs [(1173, .iinc 3 6, []), (1176, .goto (-1158), [18])] (by decide +kernel) (y := (18, [some (.ref sc), some (.ref a1), some (.ref a2), some (.int (x3 + 6))], [], h)) rfl ?_
                                      exact (ih _ _ _ _ _ _ _ _ _ _ _ _ _ _ _ _ _ _ _ _ hF) _ rfl rfl rfl rfl  hsc ha1 ha2 _ hW _ hQ
                                    · replace hF := i_neg b112 hF
                                      refine en_segs [(599, .iconst 0, [])] (by decide +kernel) (y := (600, [some (.ref sc), some (.ref a1), some (.ref a2), some (.int x3)], [.int 0], h)) rfl ?_
                                      obtain rfl := Option.some.inj hF
                                      exact en_ret (by decide +kernel : u_at kl_306 600 = some (.ireturn, [1])) rfl (hQ _ ⟨hW, Adx.rf⟩)
                                  have hF := hX
                                  refine en_if_eq (by decide +kernel : u_at kl_306 585 = some (.ifCond .eq 7, [592])) (fun b113 => ?_) (fun b113 => ?_)
                                  · replace hF := i_pos b113 hF
                                    refine en_segs [(592, .iconst 0, [])] (by decide +kernel) (y := (593, [some (.ref sc), some (.ref a1), some (.ref a2), some (.int x3)], [.int 0, .int v107, .ref a2, .int r106.1], h)) rfl ?_
                                    obtain rfl := Option.some.inj hF
                                    exact j110 _ hW
                                  · replace hF := i_neg b113 hF
                                    refine en_segs [(588, .iconst 1, []), (589, .goto 4, [593])] (by decide +kernel) (y := (593, [some (.ref sc), some (.ref a1), some (.ref a2), some (.int x3)], [.int 1, .int v107, .ref a2, .int r106.1], h)) rfl ?_
                                    obtain rfl := Option.some.inj hF
                                    exact j110 _ hW
                                have hF := hX
                                refine en_if_eq (by decide +kernel : u_at kl_306 563 = some (.ifCond .eq 7, [570])) (fun b114 => ?_) (fun b114 => ?_)
                                · replace hF := i_pos b114 hF
                                  refine en_segs [(570, .iconst 0, [])] (by decide +kernel) (y := (571, [some (.ref sc), some (.ref a1), some (.ref a2), some (.int x3)], [.int 0, .int v102, .ref a1], h)) rfl ?_
                                  obtain rfl := Option.some.inj hF
                                  exact j105 _ hW
                                · replace hF := i_neg b114 hF
                                  refine en_segs [(566, .iconst 1, []), (567, .goto 4, [571])] (by decide +kernel) (y := (571, [some (.ref sc), some (.ref a1), some (.ref a2), some (.int x3)], [.int 1, .int v102, .ref a1], h)) rfl ?_
                                  obtain rfl := Option.some.inj hF
                                  exact j105 _ hW
                              · replace hF := i_neg b101 hF
                                by_cases b115 : v2 &&& 63 = 13
                                · replace hF := i_pos b115 hF
                                  refine en_tsC (by decide +kernel : u_at kl_306 33 = some (.tableswitch 1140 0 32 #[147, 210, 233, 246, 259, 292, 325, 358, 391, 424, 483, 496, 519, 568, 581, 614, 647, 690, 704, 727, 740, 763, 786, 799, 842, 885, 928, 962, 985, 1008, 1071, 1094, 1117], [1173, 180, 243, 266, 279, 292, 325, 358, 391, 424, 457, 516, 529, 552, 601, 614, 647, 680, 723, 737, 760, 773, 796, 819, 832, 875, 918, 961, 995, 1018, 1041, 1104, 1127, 1150])) (by rw [b115]; decide) (u := 601) (by rw [b115]; rfl) ?_
                                  refine en_segs [(601, .aload_n 1, [])] (by decide +kernel) (y := (602, [some (.ref sc), some (.ref a1), some (.ref a2), some (.int x3)], [.ref a1], h)) rfl ?_
                                  obtain ⟨r116, hr116, hF⟩ := ob_some hF
                                  refine en_vi (r := []) (by decide +kernel : u_at kl_306 602 = some (.invokevirtual 72, [136, 0, 11])) hW ha1 rfl rfl (Nat.le_of_ble_eq_true rfl) (e_136 (D := D) (by omega) hW ha1 hr116) (fun h hW => ?_)
                                  have hW : HW (mkw c0 c1 c2 c3 c4 c5 c6 r116.2.1 r116.2.2.1 c9 r116.2.2.2 c11 c12 c13) d h := hW
                                  refine en_segs [(605, .aload_n 2, [])] (by decide +kernel) (y := (606, [some (.ref sc), some (.ref a1), some (.ref a2), some (.int x3)], [.ref a2, .int r116.1], h)) rfl ?_
                                  obtain ⟨r117, hr117, hF⟩ := ob_some hF
                                  refine en_vi (r := [.int r116.1]) (by decide +kernel : u_at kl_306 606 = some (.invokevirtual 75, [240, 0, 12])) hW ha2 rfl rfl (Nat.le_of_ble_eq_true rfl) (e_240 (D := D) (by omega) hW ha2 hr117) (fun h hW => ?_)
                                  have hW : HW (mkw c0 c1 c2 c3 c4 c5 c6 r116.2.1 r116.2.2.1 c9 r116.2.2.2 c11 r117.2 c13) d h := hW
                                  refine en_ic_eq (by decide +kernel : u_at kl_306 609 = some (.if_icmp .eq 564, [1173])) (fun b118 => ?_) (fun b118 => ?_)
                                  · replace hF := i_pos b118 hF
                                    refine en_segs [(1173, .iinc 3 6, []), (1176, .goto (-1158), [18])] (by decide +kernel) (y := (18, [some (.ref sc), some (.ref a1), some (.ref a2), some (.int (x3 + 6))], [], h)) rfl ?_
                                    exact (ih _ _ _ _ _ _ _ _ _ _ _ _ _ _ _ _ _ _ _ _ hF) _ rfl rfl rfl rfl  hsc ha1 ha2 _ hW _ hQ
                                  · replace hF := i_neg b118 hF
                                    refine en_segs [(612, .iconst 0, [])] (by decide +kernel) (y := (613, [some (.ref sc), some (.ref a1), some (.ref a2), some (.int x3)], [.int 0], h)) rfl ?_
                                    obtain rfl := Option.some.inj hF
                                    exact en_ret (by decide +kernel : u_at kl_306 613 = some (.ireturn, [1])) rfl (hQ _ ⟨hW, Adx.rf⟩)
                                · replace hF := i_neg b115 hF
                                  by_cases b119 : v2 &&& 63 = 14
                                  · replace hF := i_pos b119 hF
                                    refine en_tsC (by decide +kernel : u_at kl_306 33 = some (.tableswitch 1140 0 32 #[147, 210, 233, 246, 259, 292, 325, 358, 391, 424, 483, 496, 519, 568, 581, 614, 647, 690, 704, 727, 740, 763, 786, 799, 842, 885, 928, 962, 985, 1008, 1071, 1094, 1117], [1173, 180, 243, 266, 279, 292, 325, 358, 391, 424, 457, 516, 529, 552, 601, 614, 647, 680, 723, 737, 760, 773, 796, 819, 832, 875, 918, 961, 995, 1018, 1041, 1104, 1127, 1150])) (by rw [b119]; decide) (u := 614) (by rw [b119]; rfl) ?_
                                    refine en_segs [(614, .aload_n 1, []), (615, .aload_n 0, []), (616, .iload_n 3, []), (617, .iconst 1, []), (618, .iadd, [])] (by decide +kernel) (y := (619, [some (.ref sc), some (.ref a1), some (.ref a2), some (.int x3)], [.int (x3 + 1), .ref sc, .ref a1], h)) rfl ?_
                                    obtain ⟨v120, hv120, hF⟩ := ob_some hF
                                    refine en_sld (by decide +kernel : u_at kl_306 619 = some (.iaload, [])) hW hsc hv120 ?_
                                    refine en_segs [(620, .aload_n 0, []), (621, .iload_n 3, []), (622, .iconst 2, []), (623, .iadd, [])] (by decide +kernel) (y := (624, [some (.ref sc), some (.ref a1), some (.ref a2), some (.int x3)], [.int (x3 + 2), .ref sc, .int v120, .ref a1], h)) rfl ?_
                                    obtain ⟨v121, hv121, hF⟩ := ob_some hF
                                    refine en_sld (by decide +kernel : u_at kl_306 624 = some (.iaload, [])) hW hsc hv121 ?_
                                    obtain ⟨r122, hr122, hF⟩ := ob_some hF
                                    refine en_vi (r := []) (by decide +kernel : u_at kl_306 625 = some (.invokevirtual 76, [137, 2, 11])) hW ha1 rfl rfl (Nat.le_of_ble_eq_true rfl) (e_137 (D := D) (by omega) hW ha1 hr122) (fun h hW => ?_)
                                    have hW : HW (mkw c0 c1 c2 c3 r122.2.1 c5 c6 r122.2.2.1 r122.2.2.2.1 c9 r122.2.2.2.2 c11 c12 c13) d h := hW
                                    refine en_segs [(628, .aload_n 2, []), (629, .aload_n 0, []), (630, .iload_n 3, []), (631, .iconst 1, []), (632, .iadd, [])] (by decide +kernel) (y := (633, [some (.ref sc), some (.ref a1), some (.ref a2), some (.int x3)], [.int (x3 + 1), .ref sc, .ref a2, .int r122.1], h)) rfl ?_
                                    obtain ⟨v123, hv123, hF⟩ := ob_some hF
                                    refine en_sld (by decide +kernel : u_at kl_306 633 = some (.iaload, [])) hW hsc hv123 ?_
                                    refine en_segs [(634, .aload_n 0, []), (635, .iload_n 3, []), (636, .iconst 2, []), (637, .iadd, [])] (by decide +kernel) (y := (638, [some (.ref sc), some (.ref a1), some (.ref a2), some (.int x3)], [.int (x3 + 2), .ref sc, .int v123, .ref a2, .int r122.1], h)) rfl ?_
                                    obtain ⟨v124, hv124, hF⟩ := ob_some hF
                                    refine en_sld (by decide +kernel : u_at kl_306 638 = some (.iaload, [])) hW hsc hv124 ?_
                                    obtain ⟨r125, hr125, hF⟩ := ob_some hF
                                    refine en_vi (r := [.int r122.1]) (by decide +kernel : u_at kl_306 639 = some (.invokevirtual 79, [253, 2, 12])) hW ha2 rfl rfl (Nat.le_of_ble_eq_true rfl) (e_253 (D := D) (by omega) hW ha2 hr125) (fun h hW => ?_)
                                    have hW : HW (mkw c0 c1 c2 c3 r122.2.1 c5 c6 r122.2.2.1 r122.2.2.2.1 c9 r122.2.2.2.2 c11 r125.2 c13) d h := hW
                                    refine en_ic_eq (by decide +kernel : u_at kl_306 642 = some (.if_icmp .eq 531, [1173])) (fun b126 => ?_) (fun b126 => ?_)
                                    · replace hF := i_pos b126 hF
                                      refine en_segs [(1173, .iinc 3 6, []), (1176, .goto (-1158), [18])] (by decide +kernel) (y := (18, [some (.ref sc), some (.ref a1), some (.ref a2), some (.int (x3 + 6))], [], h)) rfl ?_
                                      exact (ih _ _ _ _ _ _ _ _ _ _ _ _ _ _ _ _ _ _ _ _ hF) _ rfl rfl rfl rfl  hsc ha1 ha2 _ hW _ hQ
                                    · replace hF := i_neg b126 hF
                                      refine en_segs [(645, .iconst 0, [])] (by decide +kernel) (y := (646, [some (.ref sc), some (.ref a1), some (.ref a2), some (.int x3)], [.int 0], h)) rfl ?_
                                      obtain rfl := Option.some.inj hF
                                      exact en_ret (by decide +kernel : u_at kl_306 646 = some (.ireturn, [1])) rfl (hQ _ ⟨hW, Adx.rf⟩)
                                  · replace hF := i_neg b119 hF
                                    by_cases b127 : v2 &&& 63 = 15
                                    · replace hF := i_pos b127 hF
                                      refine en_tsC (by decide +kernel : u_at kl_306 33 = some (.tableswitch 1140 0 32 #[147, 210, 233, 246, 259, 292, 325, 358, 391, 424, 483, 496, 519, 568, 581, 614, 647, 690, 704, 727, 740, 763, 786, 799, 842, 885, 928, 962, 985, 1008, 1071, 1094, 1117], [1173, 180, 243, 266, 279, 292, 325, 358, 391, 424, 457, 516, 529, 552, 601, 614, 647, 680, 723, 737, 760, 773, 796, 819, 832, 875, 918, 961, 995, 1018, 1041, 1104, 1127, 1150])) (by rw [b127]; decide) (u := 647) (by rw [b127]; rfl) ?_
                                      refine en_segs [(647, .aload_n 1, []), (648, .aload_n 0, []), (649, .iload_n 3, []), (650, .iconst 1, []), (651, .iadd, [])] (by decide +kernel) (y := (652, [some (.ref sc), some (.ref a1), some (.ref a2), some (.int x3)], [.int (x3 + 1), .ref sc, .ref a1], h)) rfl ?_
                                      obtain ⟨v128, hv128, hF⟩ := ob_some hF
                                      refine en_sld (by decide +kernel : u_at kl_306 652 = some (.iaload, [])) hW hsc hv128 ?_
                                      refine en_segs [(653, .aload_n 0, []), (654, .iload_n 3, []), (655, .iconst 2, []), (656, .iadd, [])] (by decide +kernel) (y := (657, [some (.ref sc), some (.ref a1), some (.ref a2), some (.int x3)], [.int (x3 + 2), .ref sc, .int v128, .ref a1], h)) rfl ?_
                                      obtain ⟨v129, hv129, hF⟩ := ob_some hF
                                      refine en_sld (by decide +kernel : u_at kl_306 657 = some (.iaload, [])) hW hsc hv129 ?_
                                      obtain ⟨r130, hr130, hF⟩ := ob_some hF
                                      refine en_vi (r := []) (by decide +kernel : u_at kl_306 658 = some (.invokevirtual 80, [138, 2, 11])) hW ha1 rfl rfl (Nat.le_of_ble_eq_true rfl) (e_138 (D := D) (by omega) hW ha1 hr130) (fun h hW => ?_)
                                      have hW : HW (mkw c0 c1 c2 c3 r130.2 c5 c6 c7 c8 c9 c10 c11 c12 c13) d h := hW
                                      refine en_segs [(661, .aload_n 2, []), (662, .aload_n 0, []), (663, .iload_n 3, []), (664, .iconst 1, []), (665, .iadd, [])] (by decide +kernel) (y := (666, [some (.ref sc), some (.ref a1), some (.ref a2), some (.int x3)], [.int (x3 + 1), .ref sc, .ref a2, .int r130.1], h)) rfl ?_
                                      obtain ⟨v131, hv131, hF⟩ := ob_some hF
                                      refine en_sld (by decide +kernel : u_at kl_306 666 = some (.iaload, [])) hW hsc hv131 ?_
                                      refine en_segs [(667, .aload_n 0, []), (668, .iload_n 3, []), (669, .iconst 2, []), (670, .iadd, [])] (by decide +kernel) (y := (671, [some (.ref sc), some (.ref a1), some (.ref a2), some (.int x3)], [.int (x3 + 2), .ref sc, .int v131, .ref a2, .int r130.1], h)) rfl ?_
                                      obtain ⟨v132, hv132, hF⟩ := ob_some hF
                                      refine en_sld (by decide +kernel : u_at kl_306 671 = some (.iaload, [])) hW hsc hv132 ?_
                                      obtain ⟨r133, hr133, hF⟩ := ob_some hF
                                      refine en_vi (r := [.int r130.1]) (by decide +kernel : u_at kl_306 672 = some (.invokevirtual 83, [251, 2, 12])) hW ha2 rfl rfl (Nat.le_of_ble_eq_true rfl) (e_251 (D := D) (by omega) hW ha2 hr133) (fun h hW => ?_)
                                      have hW : HW (mkw c0 c1 c2 c3 r130.2 c5 c6 c7 c8 c9 c10 c11 r133.2 c13) d h := hW
                                      refine en_ic_eq (by decide +kernel : u_at kl_306 675 = some (.if_icmp .eq 498, [1173])) (fun b134 => ?_) (fun b134 => ?_)
                                      · replace hF := i_pos b134 hF
                                        refine en_segs [(1173, .iinc 3 6, []), (1176, .goto (-1158), [18])] (by decide +kernel) (y := (18, [some (.ref sc), some (.ref a1), some (.ref a2), some (.int (x3 + 6))], [], h)) rfl ?_
                                        exact (ih _ _ _ _ _ _ _ _ _ _ _ _ _ _ _ _ _ _ _ _ hF) _ rfl rfl rfl rfl  hsc ha1 ha2 _ hW _ hQ
                                      · replace hF := i_neg b134 hF
                                        refine en_segs [(678, .iconst 0, [])] (by decide +kernel) (y := (679, [some (.ref sc), some (.ref a1), some (.ref a2), some (.int x3)], [.int 0], h)) rfl ?_
                                        obtain rfl := Option.some.inj hF
                                        exact en_ret (by decide +kernel : u_at kl_306 679 = some (.ireturn, [1])) rfl (hQ _ ⟨hW, Adx.rf⟩)
                                    · replace hF := i_neg b127 hF
                                      by_cases b135 : v2 &&& 63 = 16
                                      · replace hF := i_pos b135 hF
                                        refine en_tsC (by decide +kernel : u_at kl_306 33 = some (.tableswitch 1140 0 32 #[147, 210, 233, 246, 259, 292, 325, 358, 391, 424, 483, 496, 519, 568, 581, 614, 647, 690, 704, 727, 740, 763, 786, 799, 842, 885, 928, 962, 985, 1008, 1071, 1094, 1117], [1173, 180, 243, 266, 279, 292, 325, 358, 391, 424, 457, 516, 529, 552, 601, 614, 647, 680, 723, 737, 760, 773, 796, 819, 832, 875, 918, 961, 995, 1018, 1041, 1104, 1127, 1150])) (by rw [b135]; decide) (u := 680) (by rw [b135]; rfl) ?_
                                        refine en_segs [(680, .aload_n 1, []), (681, .aload_n 0, []), (682, .iload_n 3, []), (683, .iconst 1, []), (684, .iadd, [])] (by decide +kernel) (y := (685, [some (.ref sc), some (.ref a1), some (.ref a2), some (.int x3)], [.int (x3 + 1), .ref sc, .ref a1], h)) rfl ?_
                                        obtain ⟨v136, hv136, hF⟩ := ob_some hF
                                        refine en_sld (by decide +kernel : u_at kl_306 685 = some (.iaload, [])) hW hsc hv136 ?_
                                        refine en_segs [(686, .aload_n 0, []), (687, .iload_n 3, []), (688, .iconst 2, []), (689, .iadd, [])] (by decide +kernel) (y := (690, [some (.ref sc), some (.ref a1), some (.ref a2), some (.int x3)], [.int (x3 + 2), .ref sc, .int v136, .ref a1], h)) rfl ?_
                                        obtain ⟨v137, hv137, hF⟩ := ob_some hF
                                        refine en_sld (by decide +kernel : u_at kl_306 690 = some (.iaload, [])) hW hsc hv137 ?_
                                        refine en_segs [(691, .aload_n 0, []), (692, .iload_n 3, []), (693, .iconst 3, []), (694, .iadd, [])] (by decide +kernel) (y := (695, [some (.ref sc), some (.ref a1), some (.ref a2), some (.int x3)], [.int (x3 + 3), .ref sc, .int v137, .int v136, .ref a1], h)) rfl ?_
                                        obtain ⟨v138, hv138, hF⟩ := ob_some hF
                                        refine en_sld (by decide +kernel : u_at kl_306 695 = some (.iaload, [])) hW hsc hv138 ?_
                                        obtain ⟨r139, hr139, hF⟩ := ob_some hF
                                        refine en_vi (r := []) (by decide +kernel : u_at kl_306 696 = some (.invokevirtual 84, [139, 3, 11])) hW ha1 rfl rfl (Nat.le_of_ble_eq_true rfl) (e_139 (D := D) (by omega) hW ha1 hr139) (fun h hW => ?_)
                                        have hW : HW (mkw c0 c1 c2 c3 c4 c5 c6 r139.2.1 c8 c9 r139.2.2 c11 c12 c13) d h := hW
                                        refine en_segs [(699, .aload_n 2, []), (700, .aload_n 0, []), (701, .iload_n 3, []), (702, .iconst 1, []), (703, .iadd, [])] (by decide +kernel) (y := (704, [some (.ref sc), some (.ref a1), some (.ref a2), some (.int x3)], [.int (x3 + 1), .ref sc, .ref a2, .int r139.1], h)) rfl ?_
                                        obtain ⟨v140, hv140, hF⟩ := ob_some hF
                                        refine en_sld (by decide +kernel : u_at kl_306 704 = some (.iaload, [])) hW hsc hv140 ?_
                                        refine en_segs [(705, .aload_n 0, []), (706, .iload_n 3, []), (707, .iconst 2, []), (708, .iadd, [])] (by decide +kernel) (y := (709, [some (.ref sc), some (.ref a1), some (.ref a2), some (.int x3)], [.int (x3 + 2), .ref sc, .int v140, .ref a2, .int r139.1], h)) rfl ?_
                                        obtain ⟨v141, hv141, hF⟩ := ob_some hF
                                        refine en_sld (by decide +kernel : u_at kl_306 709 = some (.iaload, [])) hW hsc hv141 ?_
                                        refine en_segs [(710, .aload_n 0, []), (711, .iload_n 3, []), (712, .iconst 3, []), (713, .iadd, [])] (by decide +kernel) (y := (714, [some (.ref sc), some (.ref a1), some (.ref a2), some (.int x3)], [.int (x3 + 3), .ref sc, .int v141, .int v140, .ref a2, .int r139.1], h)) rfl ?_
                                        obtain ⟨v142, hv142, hF⟩ := ob_some hF
                                        refine en_sld (by decide +kernel : u_at kl_306 714 = some (.iaload, [])) hW hsc hv142 ?_
                                        obtain ⟨r143, hr143, hF⟩ := ob_some hF
                                        refine en_vi (r := [.int r139.1]) (by decide +kernel : u_at kl_306 715 = some (.invokevirtual 88, [254, 3, 12])) hW ha2 rfl rfl (Nat.le_of_ble_eq_true rfl) (e_254 (D := D) (by omega) hW ha2 hr143) (fun h hW => ?_)
                                        have hW : HW (mkw c0 c1 c2 c3 c4 c5 c6 r139.2.1 c8 c9 r139.2.2 c11 r143.2 c13) d h := hW
                                        refine en_ic_eq (by decide +kernel : u_at kl_306 718 = some (.if_icmp .eq 455, [1173])) (fun b144 => ?_) (fun b144 => ?_)
                                        · replace hF := i_pos b144 hF
                                          refine en_segs [(1173, .iinc 3 6, []), (1176, .goto (-1158), [18])] (by decide +kernel) (y := (18, [some (.ref sc), some (.ref a1), some (.ref a2), some (.int (x3 + 6))], [], h)) rfl ?_
                                          exact (ih _ _ _ _ _ _ _ _ _ _ _ _ _ _ _ _ _ _ _ _ hF) _ rfl rfl rfl rfl  hsc ha1 ha2 _ hW _ hQ
                                        · replace hF := i_neg b144 hF
                                          refine en_segs [(721, .iconst 0, [])] (by decide +kernel) (y := (722, [some (.ref sc), some (.ref a1), some (.ref a2), some (.int x3)], [.int 0], h)) rfl ?_
                                          obtain rfl := Option.some.inj hF
                                          exact en_ret (by decide +kernel : u_at kl_306 722 = some (.ireturn, [1])) rfl (hQ _ ⟨hW, Adx.rf⟩)
                                      · replace hF := i_neg b135 hF
                                        by_cases b145 : v2 &&& 63 = 17
                                        · replace hF := i_pos b145 hF
                                          refine en_tsC (by decide +kernel : u_at kl_306 33 = some (.tableswitch 1140 0 32 #[147, 210, 233, 246, 259, 292, 325, 358, 391, 424, 483, 496, 519, 568, 581, 614, 647, 690, 704, 727, 740, 763, 786, 799, 842, 885, 928, 962, 985, 1008, 1071, 1094, 1117], [1173, 180, 243, 266, 279, 292, 325, 358, 391, 424, 457, 516, 529, 552, 601, 614, 647, 680, 723, 737, 760, 773, 796, 819, 832, 875, 918, 961, 995, 1018, 1041, 1104, 1127, 1150])) (by rw [b145]; decide) (u := 723) (by rw [b145]; rfl) ?_
                                          refine en_segs [(723, .aload_n 1, [])] (by decide +kernel) (y := (724, [some (.ref sc), some (.ref a1), some (.ref a2), some (.int x3)], [.ref a1], h)) rfl ?_
                                          obtain ⟨r146, hr146, hF⟩ := ob_some hF
                                          refine en_vl (r := []) (by decide +kernel : u_at kl_306 724 = some (.invokevirtual 89, [140, 0, 11])) hW ha1 rfl rfl (Nat.le_of_ble_eq_true rfl) (e_140 (D := D) (by omega) hW ha1 hr146) (fun h q => ?_)
                                          obtain ⟨hW, X147⟩ := q
                                          have ha1 := X147.o ha1
                                          have ha2 := X147.o ha2
                                          have hsc := X147.s hsc
                                          have A148 := X147
                                          have hW : HW (mkw c0 c1 c2 c3 c4 c5 r146.2.1 r146.2.2.1 c8 c9 c10 c11 c12 r146.2.2.2.1) r146.2.2.2.2 h := hW
                                          refine en_segs [(727, .aload_n 2, [])] (by decide +kernel) (y := (728, [some (.ref sc), some (.ref a1), some (.ref a2), some (.int x3)], [.ref a2, .long r146.1], h)) rfl ?_
                                          obtain ⟨r149, hr149, hF⟩ := ob_some hF
                                          refine en_vl (r := [.long r146.1]) (by decide +kernel : u_at kl_306 728 = some (.invokevirtual 93, [264, 0, 12])) hW ha2 rfl rfl (Nat.le_of_ble_eq_true rfl) (e_264 (D := D) (by omega) hW ha2 hr149) (fun h hW => ?_)
                                          have hW : HW (mkw c0 c1 c2 c3 c4 c5 r146.2.1 r146.2.2.1 c8 c9 c10 c11 r149.2 r146.2.2.2.1) r146.2.2.2.2 h := hW
                                          refine en_segs [(731, .lcmp, [])] (by decide +kernel) (y := (732, [some (.ref sc), some (.ref a1), some (.ref a2), some (.int x3)], [.int (lg_cmp r146.1 r149.1)], h)) rfl ?_
                                          refine en_if_eq (by decide +kernel : u_at kl_306 732 = some (.ifCond .eq 441, [1173])) (fun b150 => ?_) (fun b150 => ?_)
                                          · replace hF := i_pos b150 hF
                                            refine en_segs [(1173, .iinc 3 6, []), (1176, .goto (-1158), [18])] (by decide +kernel) (y := (18, [some (.ref sc), some (.ref a1), some (.ref a2), some (.int (x3 + 6))], [], h)) rfl ?_
                                            exact (ih _ _ _ _ _ _ _ _ _ _ _ _ _ _ _ _ _ _ _ _ hF) _ rfl rfl rfl rfl  hsc ha1 ha2 _ hW _ (fun h' p => hQ h' ⟨p.1, A148.trans p.2⟩)
                                          · replace hF := i_neg b150 hF
                                            refine en_segs [(735, .iconst 0, [])] (by decide +kernel) (y := (736, [some (.ref sc), some (.ref a1), some (.ref a2), some (.int x3)], [.int 0], h)) rfl ?_
                                            obtain rfl := Option.some.inj hF
                                            exact en_ret (by decide +kernel : u_at kl_306 736 = some (.ireturn, [1])) rfl (hQ _ ⟨hW, A148⟩)
                                        · replace hF := i_neg b145 hF
                                          by_cases b151 : v2 &&& 63 = 18
                                          · replace hF := i_pos b151 hF
                                            refine en_tsC (by decide +kernel : u_at kl_306 33 = some (.tableswitch 1140 0 32 #[147, 210, 233, 246, 259, 292, 325, 358, 391, 424, 483, 496, 519, 568, 581, 614, 647, 690, 704, 727, 740, 763, 786, 799, 842, 885, 928, 962, 985, 1008, 1071, 1094, 1117], [1173, 180, 243, 266, 279, 292, 325, 358, 391, 424, 457, 516, 529, 552, 601, 614, 647, 680, 723, 737, 760, 773, 796, 819, 832, 875, 918, 961, 995, 1018, 1041, 1104, 1127, 1150])) (by rw [b151]; decide) (u := 737) (by rw [b151]; rfl) ?_
                                            refine en_segs [(737, .aload_n 1, []), (738, .aload_n 0, []), (739, .iload_n 3, []), (740, .iconst 1, []), (741, .iadd, [])] (by decide +kernel) (y := (742, [some (.ref sc), some (.ref a1), some (.ref a2), some (.int x3)], [.int (x3 + 1), .ref sc, .ref a1], h)) rfl ?_
                                            obtain ⟨v152, hv152, hF⟩ := ob_some hF
                                            refine en_sld (by decide +kernel : u_at kl_306 742 = some (.iaload, [])) hW hsc hv152 ?_
                                            obtain ⟨r153, hr153, hF⟩ := ob_some hF
                                            refine en_vi (r := []) (by decide +kernel : u_at kl_306 743 = some (.invokevirtual 94, [141, 1, 11])) hW ha1 rfl rfl (Nat.le_of_ble_eq_true rfl) (e_141 (D := D) (by omega) hW ha1 hr153) (fun h q => ?_)
                                            obtain ⟨hW, X154⟩ := q
                                            have ha1 := X154.o ha1
                                            have ha2 := X154.o ha2
                                            have hsc := X154.s hsc
                                            have A155 := X154
                                            have hW : HW (mkw c0 c1 c2 c3 c4 c5 r153.2.1 r153.2.2.1 c8 c9 c10 c11 c12 r153.2.2.2.1) r153.2.2.2.2 h := hW
                                            refine en_segs [(746, .aload_n 2, []), (747, .aload_n 0, []), (748, .iload_n 3, []), (749, .iconst 1, []), (750, .iadd, [])] (by decide +kernel) (y := (751, [some (.ref sc), some (.ref a1), some (.ref a2), some (.int x3)], [.int (x3 + 1), .ref sc, .ref a2, .int r153.1], h)) rfl ?_
                                            obtain ⟨v156, hv156, hF⟩ := ob_some hF
                                            refine en_sld (by decide +kernel : u_at kl_306 751 = some (.iaload, [])) hW hsc hv156 ?_
                                            obtain ⟨r157, hr157, hF⟩ := ob_some hF
                                            refine en_vi (r := [.int r153.1]) (by decide +kernel : u_at kl_306 752 = some (.invokevirtual 97, [265, 1, 12])) hW ha2 rfl rfl (Nat.le_of_ble_eq_true rfl) (e_265 (D := D) (by omega) hW ha2 hr157) (fun h hW => ?_)
                                            have hW : HW (mkw c0 c1 c2 c3 c4 c5 r153.2.1 r153.2.2.1 c8 c9 c10 c11 r157.2 r153.2.2.2.1) r153.2.2.2.2 h := hW
                                            refine en_ic_eq (by decide +kernel : u_at kl_306 755 = some (.if_icmp .eq 418, [1173])) (fun b158 => ?_) (fun b158 => ?_)
                                            · replace hF := i_pos b158 hF
                                              refine en_segs [(1173, .iinc 3 6, []), (1176, .goto (-1158), [18])] (by decide +kernel) (y := (18, [some (.ref sc), some (.ref a1), some (.ref a2), some (.int (x3 + 6))], [], h)) rfl ?_
                                              exact (ih _ _ _ _ _ _ _ _ _ _ _ _ _ _ _ _ _ _ _ _ hF) _ rfl rfl rfl rfl  hsc ha1 ha2 _ hW _ (fun h' p => hQ h' ⟨p.1, A155.trans p.2⟩)
                                            · replace hF := i_neg b158 hF
                                              refine en_segs [(758, .iconst 0, [])] (by decide +kernel) (y := (759, [some (.ref sc), some (.ref a1), some (.ref a2), some (.int x3)], [.int 0], h)) rfl ?_
                                              obtain rfl := Option.some.inj hF
                                              exact en_ret (by decide +kernel : u_at kl_306 759 = some (.ireturn, [1])) rfl (hQ _ ⟨hW, A155⟩)
                                          · replace hF := i_neg b151 hF
                                            by_cases b159 : v2 &&& 63 = 19
                                            · replace hF := i_pos b159 hF
                                              refine en_tsC (by decide +kernel : u_at kl_306 33 = some (.tableswitch 1140 0 32 #[147, 210, 233, 246, 259, 292, 325, 358, 391, 424, 483, 496, 519, 568, 581, 614, 647, 690, 704, 727, 740, 763, 786, 799, 842, 885, 928, 962, 985, 1008, 1071, 1094, 1117], [1173, 180, 243, 266, 279, 292, 325, 358, 391, 424, 457, 516, 529, 552, 601, 614, 647, 680, 723, 737, 760, 773, 796, 819, 832, 875, 918, 961, 995, 1018, 1041, 1104, 1127, 1150])) (by rw [b159]; decide) (u := 760) (by rw [b159]; rfl) ?_
                                              refine en_segs [(760, .aload_n 1, [])] (by decide +kernel) (y := (761, [some (.ref sc), some (.ref a1), some (.ref a2), some (.int x3)], [.ref a1], h)) rfl ?_
                                              obtain ⟨r160, hr160, hF⟩ := ob_some hF
                                              refine en_vi (r := []) (by decide +kernel : u_at kl_306 761 = some (.invokevirtual 98, [142, 0, 11])) hW ha1 rfl rfl (Nat.le_of_ble_eq_true rfl) (e_142 (D := D) (by omega) hW ha1 hr160) (fun h q => ?_)
                                              obtain ⟨hW, X161⟩ := q
                                              have ha1 := X161.o ha1
                                              have ha2 := X161.o ha2
                                              have hsc := X161.s hsc
                                              have A162 := X161
                                              have hW : HW (mkw c0 c1 c2 c3 c4 c5 r160.2.1 r160.2.2.1 c8 c9 c10 c11 c12 r160.2.2.2.1) r160.2.2.2.2 h := hW
                                              refine en_segs [(764, .aload_n 2, [])] (by decide +kernel) (y := (765, [some (.ref sc), some (.ref a1), some (.ref a2), some (.int x3)], [.ref a2, .int r160.1], h)) rfl ?_
                                              obtain ⟨r163, hr163, hF⟩ := ob_some hF
                                              refine en_vi (r := [.int r160.1]) (by decide +kernel : u_at kl_306 765 = some (.invokevirtual 101, [266, 0, 12])) hW ha2 rfl rfl (Nat.le_of_ble_eq_true rfl) (e_266 (D := D) (by omega) hW ha2 hr163) (fun h hW => ?_)
                                              have hW : HW (mkw c0 c1 c2 c3 c4 c5 r160.2.1 r160.2.2.1 c8 c9 c10 c11 r163.2 r160.2.2.2.1) r160.2.2.2.2 h := hW
                                              refine en_ic_eq (by decide +kernel : u_at kl_306 768 = some (.if_icmp .eq 405, [1173])) (fun b164 => ?_) (fun b164 => ?_)
                                              · replace hF := i_pos b164 hF
                                                refine en_segs [(1173, .iinc 3 6, []), (1176, .goto (-1158), [18])] (by decide +kernel) (y := (18, [some (.ref sc), some (.ref a1), some (.ref a2), some (.int (x3 + 6))], [], h)) rfl ?_
                                                exact (ih _ _ _ _ _ _ _ _ _ _ _ _ _ _ _ _ _ _ _ _ hF) _ rfl rfl rfl rfl  hsc ha1 ha2 _ hW _ (fun h' p => hQ h' ⟨p.1, A162.trans p.2⟩)
                                              · replace hF := i_neg b164 hF
                                                refine en_segs [(771, .iconst 0, [])] (by decide +kernel) (y := (772, [some (.ref sc), some (.ref a1), some (.ref a2), some (.int x3)], [.int 0], h)) rfl ?_
                                                obtain rfl := Option.some.inj hF
                                                exact en_ret (by decide +kernel : u_at kl_306 772 = some (.ireturn, [1])) rfl (hQ _ ⟨hW, A162⟩)
                                            · replace hF := i_neg b159 hF
                                              by_cases b165 : v2 &&& 63 = 20
                                              · replace hF := i_pos b165 hF
                                                refine en_tsC (by decide +kernel : u_at kl_306 33 = some (.tableswitch 1140 0 32 #[147, 210, 233, 246, 259, 292, 325, 358, 391, 424, 483, 496, 519, 568, 581, 614, 647, 690, 704, 727, 740, 763, 786, 799, 842, 885, 928, 962, 985, 1008, 1071, 1094, 1117], [1173, 180, 243, 266, 279, 292, 325, 358, 391, 424, 457, 516, 529, 552, 601, 614, 647, 680, 723, 737, 760, 773, 796, 819, 832, 875, 918, 961, 995, 1018, 1041, 1104, 1127, 1150])) (by rw [b165]; decide) (u := 773) (by rw [b165]; rfl) ?_
                                                refine en_segs [(773, .aload_n 1, []), (774, .aload_n 0, []), (775, .iload_n 3, []), (776, .iconst 1, []), (777, .iadd, [])] (by decide +kernel) (y := (778, [some (.ref sc), some (.ref a1), some (.ref a2), some (.int x3)], [.int (x3 + 1), .ref sc, .ref a1], h)) rfl ?_
                                                obtain ⟨v166, hv166, hF⟩ := ob_some hF
                                                refine en_sld (by decide +kernel : u_at kl_306 778 = some (.iaload, [])) hW hsc hv166 ?_
                                                obtain ⟨r167, hr167, hF⟩ := ob_some hF
                                                refine en_vi (r := []) (by decide +kernel : u_at kl_306 779 = some (.invokevirtual 102, [143, 1, 11])) hW ha1 rfl rfl (Nat.le_of_ble_eq_true rfl) (e_143 (D := D) (by omega) hW ha1 hr167) (fun h q => ?_)
                                                obtain ⟨hW, X168⟩ := q
                                                have ha1 := X168.o ha1
                                                have ha2 := X168.o ha2
                                                have hsc := X168.s hsc
                                                have A169 := X168
                                                have hW : HW (mkw c0 c1 c2 c3 c4 c5 r167.2.1 r167.2.2.1 c8 c9 c10 c11 c12 r167.2.2.2.1) r167.2.2.2.2 h := hW
                                                refine en_segs [(782, .aload_n 2, []), (783, .aload_n 0, []), (784, .iload_n 3, []), (785, .iconst 1, []), (786, .iadd, [])] (by decide +kernel) (y := (787, [some (.ref sc), some (.ref a1), some (.ref a2), some (.int x3)], [.int (x3 + 1), .ref sc, .ref a2, .int r167.1], h)) rfl ?_
                                                obtain ⟨v170, hv170, hF⟩ := ob_some hF
                                                refine en_sld (by decide +kernel : u_at kl_306 787 = some (.iaload, [])) hW hsc hv170 ?_
                                                obtain ⟨r171, hr171, hF⟩ := ob_some hF
                                                refine en_vi (r := [.int r167.1]) (by decide +kernel : u_at kl_306 788 = some (.invokevirtual 105, [268, 1, 12])) hW ha2 rfl rfl (Nat.le_of_ble_eq_true rfl) (e_268 (D := D) (by omega) hW ha2 hr171) (fun h hW => ?_)
                                                have hW : HW (mkw c0 c1 c2 c3 c4 c5 r167.2.1 r167.2.2.1 c8 c9 c10 c11 r171.2 r167.2.2.2.1) r167.2.2.2.2 h := hW
                                                refine en_ic_eq (by decide +kernel : u_at kl_306 791 = some (.if_icmp .eq 382, [1173])) (fun b172 => ?_) (fun b172 => ?_)
                                                · replace hF := i_pos b172 hF
                                                  refine en_segs [(1173, .iinc 3 6, []), (1176, .goto (-1158), [18])] (by decide +kernel) (y := (18, [some (.ref sc), some (.ref a1), some (.ref a2), some (.int (x3 + 6))], [], h)) rfl ?_
                                                  exact (ih _ _ _ _ _ _ _ _ _ _ _ _ _ _ _ _ _ _ _ _ hF) _ rfl rfl rfl rfl  hsc ha1 ha2 _ hW _ (fun h' p => hQ h' ⟨p.1, A169.trans p.2⟩)
                                                · replace hF := i_neg b172 hF
                                                  refine en_segs [(794, .iconst 0, [])] (by decide +kernel) (y := (795, [some (.ref sc), some (.ref a1), some (.ref a2), some (.int x3)], [.int 0], h)) rfl ?_
                                                  obtain rfl := Option.some.inj hF
                                                  exact en_ret (by decide +kernel : u_at kl_306 795 = some (.ireturn, [1])) rfl (hQ _ ⟨hW, A169⟩)
                                              · replace hF := i_neg b165 hF
                                                by_cases b173 : v2 &&& 63 = 21
                                                · replace hF := i_pos b173 hF
                                                  refine en_tsC (by decide +kernel : u_at kl_306 33 = some (.tableswitch 1140 0 32 #[147, 210, 233, 246, 259, 292, 325, 358, 391, 424, 483, 496, 519, 568, 581, 614, 647, 690, 704, 727, 740, 763, 786, 799, 842, 885, 928, 962, 985, 1008, 1071, 1094, 1117], [1173, 180, 243, 266, 279, 292, 325, 358, 391, 424, 457, 516, 529, 552, 601, 614, 647, 680, 723, 737, 760, 773, 796, 819, 832, 875, 918, 961, 995, 1018, 1041, 1104, 1127, 1150])) (by rw [b173]; decide) (u := 796) (by rw [b173]; rfl) ?_
                                                  refine en_segs [(796, .aload_n 1, []), (797, .aload_n 0, []), (798, .iload_n 3, []), (799, .iconst 1, []), (800, .iadd, [])] (by decide +kernel) (y := (801, [some (.ref sc), some (.ref a1), some (.ref a2), some (.int x3)], [.int (x3 + 1), .ref sc, .ref a1], h)) rfl ?_
                                                  obtain ⟨v174, hv174, hF⟩ := ob_some hF
                                                  refine en_sld (by decide +kernel : u_at kl_306 801 = some (.iaload, [])) hW hsc hv174 ?_
                                                  obtain ⟨r175, hr175, hF⟩ := ob_some hF
                                                  refine en_vi (r := []) (by decide +kernel : u_at kl_306 802 = some (.invokevirtual 106, [144, 1, 11])) hW ha1 rfl rfl (Nat.le_of_ble_eq_true rfl) (e_144 (D := D) (by omega) hW ha1 hr175) (fun h hW => ?_)
                                                  have hW : HW (mkw c0 c1 c2 c3 c4 c5 r175.2.1 c7 c8 r175.2.2 c10 c11 c12 c13) d h := hW
                                                  refine en_segs [(805, .aload_n 2, []), (806, .aload_n 0, []), (807, .iload_n 3, []), (808, .iconst 1, []), (809, .iadd, [])] (by decide +kernel) (y := (810, [some (.ref sc), some (.ref a1), some (.ref a2), some (.int x3)], [.int (x3 + 1), .ref sc, .ref a2, .int r175.1], h)) rfl ?_
                                                  obtain ⟨v176, hv176, hF⟩ := ob_some hF
                                                  refine en_sld (by decide +kernel : u_at kl_306 810 = some (.iaload, [])) hW hsc hv176 ?_
                                                  obtain ⟨r177, hr177, hF⟩ := ob_some hF
                                                  refine en_vi (r := [.int r175.1]) (by decide +kernel : u_at kl_306 811 = some (.invokevirtual 109, [273, 1, 12])) hW ha2 rfl rfl (Nat.le_of_ble_eq_true rfl) (e_273 (D := D) (by omega) hW ha2 hr177) (fun h hW => ?_)
                                                  have hW : HW (mkw c0 c1 c2 c3 c4 c5 r175.2.1 c7 c8 r175.2.2 c10 c11 r177.2 c13) d h := hW
                                                  refine en_ic_eq (by decide +kernel : u_at kl_306 814 = some (.if_icmp .eq 359, [1173])) (fun b178 => ?_) (fun b178 => ?_)
                                                  · replace hF := i_pos b178 hF
                                                    refine en_segs [(1173, .iinc 3 6, []), (1176, .goto (-1158), [18])] (by decide +kernel) (y := (18, [some (.ref sc), some (.ref a1), some (.ref a2), some (.int (x3 + 6))], [], h)) rfl ?_
                                                    exact (ih _ _ _ _ _ _ _ _ _ _ _ _ _ _ _ _ _ _ _ _ hF) _ rfl rfl rfl rfl  hsc ha1 ha2 _ hW _ hQ
                                                  · replace hF := i_neg b178 hF
                                                    refine en_segs [(817, .iconst 0, [])] (by decide +kernel) (y := (818, [some (.ref sc), some (.ref a1), some (.ref a2), some (.int x3)], [.int 0], h)) rfl ?_
                                                    obtain rfl := Option.some.inj hF
                                                    exact en_ret (by decide +kernel : u_at kl_306 818 = some (.ireturn, [1])) rfl (hQ _ ⟨hW, Adx.rf⟩)
                                                · replace hF := i_neg b173 hF
                                                  by_cases b179 : v2 &&& 63 = 22
                                                  · replace hF := i_pos b179 hF
                                                    refine en_tsC (by decide +kernel : u_at kl_306 33 = some (.tableswitch 1140 0 32 #[147, 210, 233, 246, 259, 292, 325, 358, 391, 424, 483, 496, 519, 568, 581, 614, 647, 690, 704, 727, 740, 763, 786, 799, 842, 885, 928, 962, 985, 1008, 1071, 1094, 1117], [1173, 180, 243, 266, 279, 292, 325, 358, 391, 424, 457, 516, 529, 552, 601, 614, 647, 680, 723, 737, 760, 773, 796, 819, 832, 875, 918, 961, 995, 1018, 1041, 1104, 1127, 1150])) (by rw [b179]; decide) (u := 819) (by rw [b179]; rfl) ?_
                                                    refine en_segs [(819, .aload_n 1, [])] (by decide +kernel) (y := (820, [some (.ref sc), some (.ref a1), some (.ref a2), some (.int x3)], [.ref a1], h)) rfl ?_
                                                    obtain ⟨r180, hr180, hF⟩ := ob_some hF
                                                    refine en_vi (r := []) (by decide +kernel : u_at kl_306 820 = some (.invokevirtual 110, [145, 0, 11])) hW ha1 rfl rfl (Nat.le_of_ble_eq_true rfl) (e_145 (D := D) (by omega) hW ha1 hr180) (fun h hW => ?_)
                                                    have hW : HW (mkw c0 c1 c2 c3 c4 c5 r180.2.1 c7 c8 r180.2.2 c10 c11 c12 c13) d h := hW
                                                    refine en_segs [(823, .aload_n 2, [])] (by decide +kernel) (y := (824, [some (.ref sc), some (.ref a1), some (.ref a2), some (.int x3)], [.ref a2, .int r180.1], h)) rfl ?_
                                                    obtain ⟨r181, hr181, hF⟩ := ob_some hF
                                                    refine en_vi (r := [.int r180.1]) (by decide +kernel : u_at kl_306 824 = some (.invokevirtual 113, [274, 0, 12])) hW ha2 rfl rfl (Nat.le_of_ble_eq_true rfl) (e_274 (D := D) (by omega) hW ha2 hr181) (fun h hW => ?_)
                                                    have hW : HW (mkw c0 c1 c2 c3 c4 c5 r180.2.1 c7 c8 r180.2.2 c10 c11 r181.2 c13) d h := hW
                                                    refine en_ic_eq (by decide +kernel : u_at kl_306 827 = some (.if_icmp .eq 346, [1173])) (fun b182 => ?_) (fun b182 => ?_)
                                                    · replace hF := i_pos b182 hF
                                                      refine en_segs [(1173, .iinc 3 6, []), (1176, .goto (-1158), [18])] (by decide +kernel) (y := (18, [some (.ref sc), some (.ref a1), some (.ref a2), some (.int (x3 + 6))], [], h)) rfl ?_
                                                      exact (ih _ _ _ _ _ _ _ _ _ _ _ _ _ _ _ _ _ _ _ _ hF) _ rfl rfl rfl rfl  hsc ha1 ha2 _ hW _ hQ
                                                    · replace hF := i_neg b182 hF
                                                      refine en_segs [(830, .iconst 0, [])] (by decide +kernel) (y := (831, [some (.ref sc), some (.ref a1), some (.ref a2), some (.int x3)], [.int 0], h)) rfl ?_
                                                      obtain rfl := Option.some.inj hF
                                                      exact en_ret (by decide +kernel : u_at kl_306 831 = some (.ireturn, [1])) rfl (hQ _ ⟨hW, Adx.rf⟩)
                                                  · replace hF := i_neg b179 hF
                                                    by_cases b183 : v2 &&& 63 = 23
                                                    · replace hF := i_pos b183 hF
                                                      refine en_tsC (by decide +kernel : u_at kl_306 33 = some (.tableswitch 1140 0 32 #[147, 210, 233, 246, 259, 292, 325, 358, 391, 424, 483, 496, 519, 568, 581, 614, 647, 690, 704, 727, 740, 763, 786, 799, 842, 885, 928, 962, 985, 1008, 1071, 1094, 1117], [1173, 180, 243, 266, 279, 292, 325, 358, 391, 424, 457, 516, 529, 552, 601, 614, 647, 680, 723, 737, 760, 773, 796, 819, 832, 875, 918, 961, 995, 1018, 1041, 1104, 1127, 1150])) (by rw [b183]; decide) (u := 832) (by rw [b183]; rfl) ?_
                                                      refine en_segs [(832, .aload_n 1, []), (833, .aload_n 0, []), (834, .iload_n 3, []), (835, .iconst 1, []), (836, .iadd, [])] (by decide +kernel) (y := (837, [some (.ref sc), some (.ref a1), some (.ref a2), some (.int x3)], [.int (x3 + 1), .ref sc, .ref a1], h)) rfl ?_
                                                      obtain ⟨v184, hv184, hF⟩ := ob_some hF
                                                      refine en_sld (by decide +kernel : u_at kl_306 837 = some (.iaload, [])) hW hsc hv184 ?_
                                                      refine en_segs [(838, .aload_n 0, []), (839, .iload_n 3, []), (840, .iconst 2, []), (841, .iadd, [])] (by decide +kernel) (y := (842, [some (.ref sc), some (.ref a1), some (.ref a2), some (.int x3)], [.int (x3 + 2), .ref sc, .int v184, .ref a1], h)) rfl ?_
                                                      obtain ⟨v185, hv185, hF⟩ := ob_some hF
                                                      refine en_sld (by decide +kernel : u_at kl_306 842 = some (.iaload, [])) hW hsc hv185 ?_
                                                      refine en_segs [(843, .aload_n 0, []), (844, .iload_n 3, []), (845, .iconst 3, []), (846, .iadd, [])] (by decide +kernel) (y := (847, [some (.ref sc), some (.ref a1), some (.ref a2), some (.int x3)], [.int (x3 + 3), .ref sc, .int v185, .int v184, .ref a1], h)) rfl ?_
                                                      obtain ⟨v186, hv186, hF⟩ := ob_some hF
                                                      refine en_sld (by decide +kernel : u_at kl_306 847 = some (.iaload, [])) hW hsc hv186 ?_
                                                      obtain ⟨r187, hr187, hF⟩ := ob_some hF
                                                      refine en_vi (r := []) (by decide +kernel : u_at kl_306 848 = some (.invokevirtual 114, [146, 3, 11])) hW ha1 rfl rfl (Nat.le_of_ble_eq_true rfl) (e_146 (D := D) (by omega) hW ha1 hr187) (fun h hW => ?_)
                                                      have hW : HW (mkw r187.2.1 c1 c2 c3 c4 c5 r187.2.2.1 c7 c8 c9 c10 c11 c12 r187.2.2.2) d h := hW
                                                      refine en_segs [(851, .aload_n 2, []), (852, .aload_n 0, []), (853, .iload_n 3, []), (854, .iconst 1, []), (855, .iadd, [])] (by decide +kernel) (y := (856, [some (.ref sc), some (.ref a1), some (.ref a2), some (.int x3)], [.int (x3 + 1), .ref sc, .ref a2, .int r187.1], h)) rfl ?_
                                                      obtain ⟨v188, hv188, hF⟩ := ob_some hF
                                                      refine en_sld (by decide +kernel : u_at kl_306 856 = some (.iaload, [])) hW hsc hv188 ?_
                                                      refine en_segs [(857, .aload_n 0, []), (858, .iload_n 3, []), (859, .iconst 2, []), (860, .iadd, [])] (by decide +kernel) (y := (861, [some (.ref sc), some (.ref a1), some (.ref a2), some (.int x3)], [.int (x3 + 2), .ref sc, .int v188, .ref a2, .int r187.1], h)) rfl ?_
                                                      obtain ⟨v189, hv189, hF⟩ := ob_some hF
                                                      refine en_sld (by decide +kernel : u_at kl_306 861 = some (.iaload, [])) hW hsc hv189 ?_
                                                      refine en_segs [(862, .aload_n 0, []), (863, .iload_n 3, []), (864, .iconst 3, []), (865, .iadd, [])] (by decide +kernel) (y := (866, [some (.ref sc), some (.ref a1), some (.ref a2), some (.int x3)], [.int (x3 + 3), .ref sc, .int v189, .int v188, .ref a2, .int r187.1], h)) rfl ?_
                                                      obtain ⟨v190, hv190, hF⟩ := ob_some hF
                                                      refine en_sld (by decide +kernel : u_at kl_306 866 = some (.iaload, [])) hW hsc hv190 ?_
                                                      obtain ⟨r191, hr191, hF⟩ := ob_some hF
                                                      refine en_vi (r := [.int r187.1]) (by decide +kernel : u_at kl_306 867 = some (.invokevirtual 117, [278, 3, 12])) hW ha2 rfl rfl (Nat.le_of_ble_eq_true rfl) (e_278 (D := D) (by omega) hW ha2 hr191) (fun h hW => ?_)
                                                      have hW : HW (mkw r187.2.1 c1 c2 c3 c4 c5 r187.2.2.1 c7 c8 c9 c10 c11 r191.2 r187.2.2.2) d h := hW
                                                      refine en_ic_eq (by decide +kernel : u_at kl_306 870 = some (.if_icmp .eq 303, [1173])) (fun b192 => ?_) (fun b192 => ?_)
                                                      · replace hF := i_pos b192 hF
                                                        refine en_segs [(1173, .iinc 3 6, []), (1176, .goto (-1158), [18])] (by decide +kernel) (y := (18, [some (.ref sc), some (.ref a1), some (.ref a2), some (.int (x3 + 6))], [], h)) rfl ?_
                                                        exact (ih _ _ _ _ _ _ _ _ _ _ _ _ _ _ _ _ _ _ _ _ hF) _ rfl rfl rfl rfl  hsc ha1 ha2 _ hW _ hQ
                                                      · replace hF := i_neg b192 hF
                                                        refine en_segs [(873, .iconst 0, [])] (by decide +kernel) (y := (874, [some (.ref sc), some (.ref a1), some (.ref a2), some (.int x3)], [.int 0], h)) rfl ?_
                                                        obtain rfl := Option.some.inj hF
                                                        exact en_ret (by decide +kernel : u_at kl_306 874 = some (.ireturn, [1])) rfl (hQ _ ⟨hW, Adx.rf⟩)
                                                    · replace hF := i_neg b183 hF
                                                      by_cases b193 : v2 &&& 63 = 24
                                                      · replace hF := i_pos b193 hF
                                                        refine en_tsC (by decide +kernel : u_at kl_306 33 = some (.tableswitch 1140 0 32 #[147, 210, 233, 246, 259, 292, 325, 358, 391, 424, 483, 496, 519, 568, 581, 614, 647, 690, 704, 727, 740, 763, 786, 799, 842, 885, 928, 962, 985, 1008, 1071, 1094, 1117], [1173, 180, 243, 266, 279, 292, 325, 358, 391, 424, 457, 516, 529, 552, 601, 614, 647, 680, 723, 737, 760, 773, 796, 819, 832, 875, 918, 961, 995, 1018, 1041, 1104, 1127, 1150])) (by rw [b193]; decide) (u := 875) (by rw [b193]; rfl) ?_
                                                        refine en_segs [(875, .aload_n 1, []), (876, .aload_n 0, []), (877, .iload_n 3, []), (878, .iconst 1, []), (879, .iadd, [])] (by decide +kernel) (y := (880, [some (.ref sc), some (.ref a1), some (.ref a2), some (.int x3)], [.int (x3 + 1), .ref sc, .ref a1], h)) rfl ?_
                                                        obtain ⟨v194, hv194, hF⟩ := ob_some hF
                                                        refine en_sld (by decide +kernel : u_at kl_306 880 = some (.iaload, [])) hW hsc hv194 ?_
                                                        refine en_segs [(881, .aload_n 0, []), (882, .iload_n 3, []), (883, .iconst 2, []), (884, .iadd, [])] (by decide +kernel) (y := (885, [some (.ref sc), some (.ref a1), some (.ref a2), some (.int x3)], [.int (x3 + 2), .ref sc, .int v194, .ref a1], h)) rfl ?_
                                                        obtain ⟨v195, hv195, hF⟩ := ob_some hF
                                                        refine en_sld (by decide +kernel : u_at kl_306 885 = some (.iaload, [])) hW hsc hv195 ?_
                                                        refine en_segs [(886, .aload_n 0, []), (887, .iload_n 3, []), (888, .iconst 3, []), (889, .iadd, [])] (by decide +kernel) (y := (890, [some (.ref sc), some (.ref a1), some (.ref a2), some (.int x3)], [.int (x3 + 3), .ref sc, .int v195, .int v194, .ref a1], h)) rfl ?_
                                                        obtain ⟨v196, hv196, hF⟩ := ob_some hF
                                                        refine en_sld (by decide +kernel : u_at kl_306 890 = some (.iaload, [])) hW hsc hv196 ?_
                                                        obtain ⟨r197, hr197, hF⟩ := ob_some hF
                                                        refine en_vi (r := []) (by decide +kernel : u_at kl_306 891 = some (.invokevirtual 118, [147, 3, 11])) hW ha1 rfl rfl (Nat.le_of_ble_eq_true rfl) (e_147 (D := D) (by omega) hW ha1 hr197) (fun h q => ?_)
                                                        obtain ⟨hW, X198⟩ := q
                                                        have ha1 := X198.o ha1
                                                        have ha2 := X198.o ha2
                                                        have hsc := X198.s hsc
                                                        have A199 := X198
                                                        have hW : HW (mkw r197.2.1 c1 c2 c3 c4 c5 r197.2.2.1 c7 c8 c9 c10 c11 c12 r197.2.2.2.1) r197.2.2.2.2 h := hW
                                                        refine en_segs [(894, .aload_n 2, []), (895, .aload_n 0, []), (896, .iload_n 3, []), (897, .iconst 1, []), (898, .iadd, [])] (by decide +kernel) (y := (899, [some (.ref sc), some (.ref a1), some (.ref a2), some (.int x3)], [.int (x3 + 1), .ref sc, .ref a2, .int r197.1], h)) rfl ?_
                                                        obtain ⟨v200, hv200, hF⟩ := ob_some hF
                                                        refine en_sld (by decide +kernel : u_at kl_306 899 = some (.iaload, [])) hW hsc hv200 ?_
                                                        refine en_segs [(900, .aload_n 0, []), (901, .iload_n 3, []), (902, .iconst 2, []), (903, .iadd, [])] (by decide +kernel) (y := (904, [some (.ref sc), some (.ref a1), some (.ref a2), some (.int x3)], [.int (x3 + 2), .ref sc, .int v200, .ref a2, .int r197.1], h)) rfl ?_
                                                        obtain ⟨v201, hv201, hF⟩ := ob_some hF
                                                        refine en_sld (by decide +kernel : u_at kl_306 904 = some (.iaload, [])) hW hsc hv201 ?_
                                                        refine en_segs [(905, .aload_n 0, []), (906, .iload_n 3, []), (907, .iconst 3, []), (908, .iadd, [])] (by decide +kernel) (y := (909, [some (.ref sc), some (.ref a1), some (.ref a2), some (.int x3)], [.int (x3 + 3), .ref sc, .int v201, .int v200, .ref a2, .int r197.1], h)) rfl ?_
                                                        obtain ⟨v202, hv202, hF⟩ := ob_some hF
                                                        refine en_sld (by decide +kernel : u_at kl_306 909 = some (.iaload, [])) hW hsc hv202 ?_
                                                        obtain ⟨r203, hr203, hF⟩ := ob_some hF
                                                        refine en_vi (r := [.int r197.1]) (by decide +kernel : u_at kl_306 910 = some (.invokevirtual 121, [283, 3, 12])) hW ha2 rfl rfl (Nat.le_of_ble_eq_true rfl) (e_283 (D := D) (by omega) hW ha2 hr203) (fun h hW => ?_)
                                                        have hW : HW (mkw r197.2.1 c1 c2 c3 c4 c5 r197.2.2.1 c7 c8 c9 c10 c11 r203.2 r197.2.2.2.1) r197.2.2.2.2 h := hW
                                                        refine en_ic_eq (by decide +kernel : u_at kl_306 913 = some (.if_icmp .eq 260, [1173])) (fun b204 => ?_) (fun b204 => ?_)
                                                        · replace hF := i_pos b204 hF
                                                          refine en_segs [(1173, .iinc 3 6, []), (1176, .goto (-1158), [18])] (by decide +kernel) (y := (18, [some (.ref sc), some (.ref a1), some (.ref a2), some (.int (x3 + 6))], [], h)) rfl ?_
                                                          exact (ih _ _ _ _ _ _ _ _ _ _ _ _ _ _ _ _ _ _ _ _ hF) _ rfl rfl rfl rfl  hsc ha1 ha2 _ hW _ (fun h' p => hQ h' ⟨p.1, A199.trans p.2⟩)
                                                        · replace hF := i_neg b204 hF
                                                          refine en_segs [(916, .iconst 0, [])] (by decide +kernel) (y := (917, [some (.ref sc), some (.ref a1), some (.ref a2), some (.int x3)], [.int 0], h)) rfl ?_
                                                          obtain rfl := Option.some.inj hF
                                                          exact en_ret (by decide +kernel : u_at kl_306 917 = some (.ireturn, [1])) rfl (hQ _ ⟨hW, A199⟩)
                                                      · replace hF := i_neg b193 hF
                                                        by_cases b205 : v2 &&& 63 = 25
                                                        · replace hF := i_pos b205 hF
                                                          refine en_tsC (by decide +kernel : u_at kl_306 33 = some (.tableswitch 1140 0 32 #[147, 210, 233, 246, 259, 292, 325, 358, 391, 424, 483, 496, 519, 568, 581, 614, 647, 690, 704, 727, 740, 763, 786, 799, 842, 885, 928, 962, 985, 1008, 1071, 1094, 1117], [1173, 180, 243, 266, 279, 292, 325, 358, 391, 424, 457, 516, 529, 552, 601, 614, 647, 680, 723, 737, 760, 773, 796, 819, 832, 875, 918, 961, 995, 1018, 1041, 1104, 1127, 1150])) (by rw [b205]; decide) (u := 918) (by rw [b205]; rfl) ?_
                                                          refine en_segs [(918, .aload_n 1, []), (919, .aload_n 0, []), (920, .iload_n 3, []), (921, .iconst 1, []), (922, .iadd, [])] (by decide +kernel) (y := (923, [some (.ref sc), some (.ref a1), some (.ref a2), some (.int x3)], [.int (x3 + 1), .ref sc, .ref a1], h)) rfl ?_
                                                          obtain ⟨v206, hv206, hF⟩ := ob_some hF
                                                          refine en_sld (by decide +kernel : u_at kl_306 923 = some (.iaload, [])) hW hsc hv206 ?_
                                                          refine en_segs [(924, .aload_n 0, []), (925, .iload_n 3, []), (926, .iconst 2, []), (927, .iadd, [])] (by decide +kernel) (y := (928, [some (.ref sc), some (.ref a1), some (.ref a2), some (.int x3)], [.int (x3 + 2), .ref sc, .int v206, .ref a1], h)) rfl ?_
                                                          obtain ⟨v207, hv207, hF⟩ := ob_some hF
                                                          refine en_sld (by decide +kernel : u_at kl_306 928 = some (.iaload, [])) hW hsc hv207 ?_
                                                          refine en_segs [(929, .aload_n 0, []), (930, .iload_n 3, []), (931, .iconst 3, []), (932, .iadd, [])] (by decide +kernel) (y := (933, [some (.ref sc), some (.ref a1), some (.ref a2), some (.int x3)], [.int (x3 + 3), .ref sc, .int v207, .int v206, .ref a1], h)) rfl ?_
                                                          obtain ⟨v208, hv208, hF⟩ := ob_some hF
                                                          refine en_sld (by decide +kernel : u_at kl_306 933 = some (.iaload, [])) hW hsc hv208 ?_
                                                          obtain ⟨r209, hr209, hF⟩ := ob_some hF
                                                          refine en_vi (r := []) (by decide +kernel : u_at kl_306 934 = some (.invokevirtual 122, [148, 3, 11])) hW ha1 rfl rfl (Nat.le_of_ble_eq_true rfl) (e_148 (D := D) (by omega) hW ha1 hr209) (fun h q => ?_)
                                                          obtain ⟨hW, X210⟩ := q
                                                          have ha1 := X210.o ha1
                                                          have ha2 := X210.o ha2
                                                          have hsc := X210.s hsc
                                                          have A211 := X210
                                                          have hW : HW (mkw c0 c1 c2 c3 c4 c5 r209.2.1 r209.2.2.1 c8 c9 c10 c11 c12 r209.2.2.2.1) r209.2.2.2.2 h := hW
                                                          refine en_segs [(937, .aload_n 2, []), (938, .aload_n 0, []), (939, .iload_n 3, []), (940, .iconst 1, []), (941, .iadd, [])] (by decide +kernel) (y := (942, [some (.ref sc), some (.ref a1), some (.ref a2), some (.int x3)], [.int (x3 + 1), .ref sc, .ref a2, .int r209.1], h)) rfl ?_
                                                          obtain ⟨v212, hv212, hF⟩ := ob_some hF
                                                          refine en_sld (by decide +kernel : u_at kl_306 942 = some (.iaload, [])) hW hsc hv212 ?_
                                                          refine en_segs [(943, .aload_n 0, []), (944, .iload_n 3, []), (945, .iconst 2, []), (946, .iadd, [])] (by decide +kernel) (y := (947, [some (.ref sc), some (.ref a1), some (.ref a2), some (.int x3)], [.int (x3 + 2), .ref sc, .int v212, .ref a2, .int r209.1], h)) rfl ?_
                                                          obtain ⟨v213, hv213, hF⟩ := ob_some hF
                                                          refine en_sld (by decide +kernel : u_at kl_306 947 = some (.iaload, [])) hW hsc hv213 ?_
                                                          refine en_segs [(948, .aload_n 0, []), (949, .iload_n 3, []), (950, .iconst 3, []), (951, .iadd, [])] (by decide +kernel) (y := (952, [some (.ref sc), some (.ref a1), some (.ref a2), some (.int x3)], [.int (x3 + 3), .ref sc, .int v213, .int v212, .ref a2, .int r209.1], h)) rfl ?_
                                                          obtain ⟨v214, hv214, hF⟩ := ob_some hF
                                                          refine en_sld (by decide +kernel : u_at kl_306 952 = some (.iaload, [])) hW hsc hv214 ?_
                                                          obtain ⟨r215, hr215, hF⟩ := ob_some hF
                                                          refine en_vi (r := [.int r209.1]) (by decide +kernel : u_at kl_306 953 = some (.invokevirtual 125, [285, 3, 12])) hW ha2 rfl rfl (Nat.le_of_ble_eq_true rfl) (e_285 (D := D) (by omega) hW ha2 hr215) (fun h hW => ?_)
                                                          have hW : HW (mkw c0 c1 c2 c3 c4 c5 r209.2.1 r209.2.2.1 c8 c9 c10 c11 r215.2 r209.2.2.2.1) r209.2.2.2.2 h := hW
                                                          refine en_ic_eq (by decide +kernel : u_at kl_306 956 = some (.if_icmp .eq 217, [1173])) (fun b216 => ?_) (fun b216 => ?_)
                                                          · replace hF := i_pos b216 hF
                                                            refine en_segs [(1173, .iinc 3 6, []), (1176, .goto (-1158), [18])] (by decide +kernel) (y := (18, [some (.ref sc), some (.ref a1), some (.ref a2), some (.int (x3 + 6))], [], h)) rfl ?_
                                                            exact (ih _ _ _ _ _ _ _ _ _ _ _ _ _ _ _ _ _ _ _ _ hF) _ rfl rfl rfl rfl  hsc ha1 ha2 _ hW _ (fun h' p => hQ h' ⟨p.1, A211.trans p.2⟩)
                                                          · replace hF := i_neg b216 hF
                                                            refine en_segs [(959, .iconst 0, [])] (by decide +kernel) (y := (960, [some (.ref sc), some (.ref a1), some (.ref a2), some (.int x3)], [.int 0], h)) rfl ?_
                                                            obtain rfl := Option.some.inj hF
                                                            exact en_ret (by decide +kernel : u_at kl_306 960 = some (.ireturn, [1])) rfl (hQ _ ⟨hW, A211⟩)
                                                        · replace hF := i_neg b205 hF
                                                          by_cases b217 : v2 &&& 63 = 26
                                                          · replace hF := i_pos b217 hF
                                                            refine en_tsC (by decide +kernel : u_at kl_306 33 = some (.tableswitch 1140 0 32 #[147, 210, 233, 246, 259, 292, 325, 358, 391, 424, 483, 496, 519, 568, 581, 614, 647, 690, 704, 727, 740, 763, 786, 799, 842, 885, 928, 962, 985, 1008, 1071, 1094, 1117], [1173, 180, 243, 266, 279, 292, 325, 358, 391, 424, 457, 516, 529, 552, 601, 614, 647, 680, 723, 737, 760, 773, 796, 819, 832, 875, 918, 961, 995, 1018, 1041, 1104, 1127, 1150])) (by rw [b217]; decide) (u := 961) (by rw [b217]; rfl) ?_
                                                            refine en_segs [(961, .aload_n 1, []), (962, .aload_n 0, []), (963, .iload_n 3, []), (964, .iconst 1, []), (965, .iadd, [])] (by decide +kernel) (y := (966, [some (.ref sc), some (.ref a1), some (.ref a2), some (.int x3)], [.int (x3 + 1), .ref sc, .ref a1], h)) rfl ?_
                                                            obtain ⟨v218, hv218, hF⟩ := ob_some hF
                                                            refine en_sld (by decide +kernel : u_at kl_306 966 = some (.iaload, [])) hW hsc hv218 ?_
                                                            refine en_segs [(967, .aload_n 0, []), (968, .iload_n 3, []), (969, .iconst 2, []), (970, .iadd, [])] (by decide +kernel) (y := (971, [some (.ref sc), some (.ref a1), some (.ref a2), some (.int x3)], [.int (x3 + 2), .ref sc, .int v218, .ref a1], h)) rfl ?_
                                                            obtain ⟨v219, hv219, hF⟩ := ob_some hF
                                                            refine en_sld (by decide +kernel : u_at kl_306 971 = some (.iaload, [])) hW hsc hv219 ?_
                                                            obtain ⟨r220, hr220, hF⟩ := ob_some hF
                                                            refine en_vl (r := []) (by decide +kernel : u_at kl_306 972 = some (.invokevirtual 126, [149, 2, 11])) hW ha1 rfl rfl (Nat.le_of_ble_eq_true rfl) (e_149 (D := D) (by omega) hW ha1 hr220) (fun h hW => ?_)
                                                            have hW : HW (mkw c0 c1 c2 c3 c4 c5 r220.2.1 c7 c8 r220.2.2.1 c10 c11 c12 r220.2.2.2) d h := hW
                                                            refine en_segs [(975, .aload_n 2, []), (976, .aload_n 0, []), (977, .iload_n 3, []), (978, .iconst 1, []), (979, .iadd, [])] (by decide +kernel) (y := (980, [some (.ref sc), some (.ref a1), some (.ref a2), some (.int x3)], [.int (x3 + 1), .ref sc, .ref a2, .long r220.1], h)) rfl ?_
                                                            obtain ⟨v221, hv221, hF⟩ := ob_some hF
                                                            refine en_sld (by decide +kernel : u_at kl_306 980 = some (.iaload, [])) hW hsc hv221 ?_
                                                            refine en_segs [(981, .aload_n 0, []), (982, .iload_n 3, []), (983, .iconst 2, []), (984, .iadd, [])] (by decide +kernel) (y := (985, [some (.ref sc), some (.ref a1), some (.ref a2), some (.int x3)], [.int (x3 + 2), .ref sc, .int v221, .ref a2, .long r220.1], h)) rfl ?_
                                                            obtain ⟨v222, hv222, hF⟩ := ob_some hF
                                                            refine en_sld (by decide +kernel : u_at kl_306 985 = some (.iaload, [])) hW hsc hv222 ?_
                                                            obtain ⟨r223, hr223, hF⟩ := ob_some hF
                                                            refine en_vl (r := [.long r220.1]) (by decide +kernel : u_at kl_306 986 = some (.invokevirtual 130, [290, 2, 12])) hW ha2 rfl rfl (Nat.le_of_ble_eq_true rfl) (e_290 (D := D) (by omega) hW ha2 hr223) (fun h hW => ?_)
                                                            have hW : HW (mkw c0 c1 c2 c3 c4 c5 r220.2.1 c7 c8 r220.2.2.1 c10 c11 r223.2 r220.2.2.2) d h := hW
                                                            refine en_segs [(989, .lcmp, [])] (by decide +kernel) (y := (990, [some (.ref sc), some (.ref a1), some (.ref a2), some (.int x3)], [.int (lg_cmp r220.1 r223.1)], h)) rfl ?_
                                                            refine en_if_eq (by decide +kernel : u_at kl_306 990 = some (.ifCond .eq 183, [1173])) (fun b224 => ?_) (fun b224 => ?_)
                                                            · replace hF := i_pos b224 hF
                                                              refine en_segs [(1173, .iinc 3 6, []), (1176, .goto (-1158), [18])] (by decide +kernel) (y := (18, [some (.ref sc), some (.ref a1), some (.ref a2), some (.int (x3 + 6))], [], h)) rfl ?_
                                                              exact (ih _ _ _ _ _ _ _ _ _ _ _ _ _ _ _ _ _ _ _ _ hF) _ rfl rfl rfl rfl  hsc ha1 ha2 _ hW _ hQ
                                                            · replace hF := i_neg b224 hF
                                                              refine en_segs [(993, .iconst 0, [])] (by decide +kernel) (y := (994, [some (.ref sc), some (.ref a1), some (.ref a2), some (.int x3)], [.int 0], h)) rfl ?_
                                                              obtain rfl := Option.some.inj hF
                                                              exact en_ret (by decide +kernel : u_at kl_306 994 = some (.ireturn, [1])) rfl (hQ _ ⟨hW, Adx.rf⟩)
                                                          · replace hF := i_neg b217 hF
                                                            by_cases b225 : v2 &&& 63 = 27
                                                            · replace hF := i_pos b225 hF
                                                              refine en_tsC (by decide +kernel : u_at kl_306 33 = some (.tableswitch 1140 0 32 #[147, 210, 233, 246, 259, 292, 325, 358, 391, 424, 483, 496, 519, 568, 581, 614, 647, 690, 704, 727, 740, 763, 786, 799, 842, 885, 928, 962, 985, 1008, 1071, 1094, 1117], [1173, 180, 243, 266, 279, 292, 325, 358, 391, 424, 457, 516, 529, 552, 601, 614, 647, 680, 723, 737, 760, 773, 796, 819, 832, 875, 918, 961, 995, 1018, 1041, 1104, 1127, 1150])) (by rw [b225]; decide) (u := 995) (by rw [b225]; rfl) ?_
                                                              refine en_segs [(995, .aload_n 1, []), (996, .aload_n 0, []), (997, .iload_n 3, []), (998, .iconst 1, []), (999, .iadd, [])] (by decide +kernel) (y := (1000, [some (.ref sc), some (.ref a1), some (.ref a2), some (.int x3)], [.int (x3 + 1), .ref sc, .ref a1], h)) rfl ?_
                                                              obtain ⟨v226, hv226, hF⟩ := ob_some hF
                                                              refine en_sld (by decide +kernel : u_at kl_306 1000 = some (.iaload, [])) hW hsc hv226 ?_
                                                              obtain ⟨r227, hr227, hF⟩ := ob_some hF
                                                              refine en_vi (r := []) (by decide +kernel : u_at kl_306 1001 = some (.invokevirtual 131, [150, 1, 11])) hW ha1 rfl rfl (Nat.le_of_ble_eq_true rfl) (e_150 (D := D) (by omega) hW ha1 hr227) (fun h hW => ?_)
                                                              have hW : HW (mkw c0 c1 c2 c3 c4 c5 r227.2 c7 c8 c9 c10 c11 c12 c13) d h := hW
                                                              refine en_segs [(1004, .aload_n 2, []), (1005, .aload_n 0, []), (1006, .iload_n 3, []), (1007, .iconst 1, []), (1008, .iadd, [])] (by decide +kernel) (y := (1009, [some (.ref sc), some (.ref a1), some (.ref a2), some (.int x3)], [.int (x3 + 1), .ref sc, .ref a2, .int r227.1], h)) rfl ?_
                                                              obtain ⟨v228, hv228, hF⟩ := ob_some hF
                                                              refine en_sld (by decide +kernel : u_at kl_306 1009 = some (.iaload, [])) hW hsc hv228 ?_
                                                              obtain ⟨r229, hr229, hF⟩ := ob_some hF
                                                              refine en_vi (r := [.int r227.1]) (by decide +kernel : u_at kl_306 1010 = some (.invokevirtual 134, [291, 1, 12])) hW ha2 rfl rfl (Nat.le_of_ble_eq_true rfl) (e_291 (D := D) (by omega) hW ha2 hr229) (fun h' q => ?_)
                                                              subst q
                                                              refine en_ic_eq (by decide +kernel : u_at kl_306 1013 = some (.if_icmp .eq 160, [1173])) (fun b230 => ?_) (fun b230 => ?_)
                                                              · replace hF := i_pos b230 hF
                                                                refine en_segs [(1173, .iinc 3 6, []), (1176, .goto (-1158), [18])] (by decide +kernel) (y := (18, [some (.ref sc), some (.ref a1), some (.ref a2), some (.int (x3 + 6))], [], h)) rfl ?_
                                                                exact (ih _ _ _ _ _ _ _ _ _ _ _ _ _ _ _ _ _ _ _ _ hF) _ rfl rfl rfl rfl  hsc ha1 ha2 _ hW _ hQ
                                                              · replace hF := i_neg b230 hF
                                                                refine en_segs [(1016, .iconst 0, [])] (by decide +kernel) (y := (1017, [some (.ref sc), some (.ref a1), some (.ref a2), some (.int x3)], [.int 0], h)) rfl ?_
                                                                obtain rfl := Option.some.inj hF
                                                                exact en_ret (by decide +kernel : u_at kl_306 1017 = some (.ireturn, [1])) rfl (hQ _ ⟨hW, Adx.rf⟩)
                                                            · replace hF := i_neg b225 hF
                                                              by_cases b231 : v2 &&& 63 = 28
                                                              · replace hF := i_pos b231 hF
                                                                refine en_tsC (by decide +kernel : u_at kl_306 33 = some (.tableswitch 1140 0 32 #[147, 210, 233, 246, 259, 292, 325, 358, 391, 424, 483, 496, 519, 568, 581, 614, 647, 690, 704, 727, 740, 763, 786, 799, 842, 885, 928, 962, 985, 1008, 1071, 1094, 1117], [1173, 180, 243, 266, 279, 292, 325, 358, 391, 424, 457, 516, 529, 552, 601, 614, 647, 680, 723, 737, 760, 773, 796, 819, 832, 875, 918, 961, 995, 1018, 1041, 1104, 1127, 1150])) (by rw [b231]; decide) (u := 1018) (by rw [b231]; rfl) ?_
                                                                refine en_segs [(1018, .aload_n 1, []), (1019, .aload_n 0, []), (1020, .iload_n 3, []), (1021, .iconst 1, []), (1022, .iadd, [])] (by decide +kernel) (y := (1023, [some (.ref sc), some (.ref a1), some (.ref a2), some (.int x3)], [.int (x3 + 1), .ref sc, .ref a1], h)) rfl ?_
                                                                obtain ⟨v232, hv232, hF⟩ := ob_some hF
                                                                refine en_sld (by decide +kernel : u_at kl_306 1023 = some (.iaload, [])) hW hsc hv232 ?_
                                                                obtain ⟨r233, hr233, hF⟩ := ob_some hF
                                                                refine en_vi (r := []) (by decide +kernel : u_at kl_306 1024 = some (.invokevirtual 135, [151, 1, 11])) hW ha1 rfl rfl (Nat.le_of_ble_eq_true rfl) (e_151 (D := D) (by omega) hW ha1 hr233) (fun h hW => ?_)
                                                                have hW : HW (mkw c0 c1 c2 c3 c4 c5 c6 c7 c8 c9 r233.2 c11 c12 c13) d h := hW
                                                                refine en_segs [(1027, .aload_n 2, []), (1028, .aload_n 0, []), (1029, .iload_n 3, []), (1030, .iconst 1, []), (1031, .iadd, [])] (by decide +kernel) (y := (1032, [some (.ref sc), some (.ref a1), some (.ref a2), some (.int x3)], [.int (x3 + 1), .ref sc, .ref a2, .int r233.1], h)) rfl ?_
                                                                obtain ⟨v234, hv234, hF⟩ := ob_some hF
                                                                refine en_sld (by decide +kernel : u_at kl_306 1032 = some (.iaload, [])) hW hsc hv234 ?_
                                                                obtain ⟨r235, hr235, hF⟩ := ob_some hF
                                                                refine en_vi (r := [.int r233.1]) (by decide +kernel : u_at kl_306 1033 = some (.invokevirtual 138, [292, 1, 12])) hW ha2 rfl rfl (Nat.le_of_ble_eq_true rfl) (e_292 (D := D) (by omega) hW ha2 hr235) (fun h hW => ?_)
                                                                have hW : HW (mkw c0 c1 c2 c3 c4 c5 c6 c7 c8 c9 r233.2 c11 r235.2 c13) d h := hW
                                                                refine en_ic_eq (by decide +kernel : u_at kl_306 1036 = some (.if_icmp .eq 137, [1173])) (fun b236 => ?_) (fun b236 => ?_)
                                                                · replace hF := i_pos b236 hF
                                                                  refine en_segs [(1173, .iinc 3 6, []), (1176, .goto (-1158), [18])] (by decide +kernel) (y := (18, [some (.ref sc), some (.ref a1), some (.ref a2), some (.int (x3 + 6))], [], h)) rfl ?_
                                                                  exact (ih _ _ _ _ _ _ _ _ _ _ _ _ _ _ _ _ _ _ _ _ hF) _ rfl rfl rfl rfl  hsc ha1 ha2 _ hW _ hQ
                                                                · replace hF := i_neg b236 hF
                                                                  refine en_segs [(1039, .iconst 0, [])] (by decide +kernel) (y := (1040, [some (.ref sc), some (.ref a1), some (.ref a2), some (.int x3)], [.int 0], h)) rfl ?_
                                                                  obtain rfl := Option.some.inj hF
                                                                  exact en_ret (by decide +kernel : u_at kl_306 1040 = some (.ireturn, [1])) rfl (hQ _ ⟨hW, Adx.rf⟩)
                                                              · replace hF := i_neg b231 hF
                                                                by_cases b237 : v2 &&& 63 = 29
                                                                · replace hF := i_pos b237 hF
                                                                  refine en_tsC (by decide +kernel : u_at kl_306 33 = some (.tableswitch 1140 0 32 #[147, 210, 233, 246, 259, 292, 325, 358, 391, 424, 483, 496, 519, 568, 581, 614, 647, 690, 704, 727, 740, 763, 786, 799, 842, 885, 928, 962, 985, 1008, 1071, 1094, 1117], [1173, 180, 243, 266, 279, 292, 325, 358, 391, 424, 457, 516, 529, 552, 601, 614, 647, 680, 723, 737, 760, 773, 796, 819, 832, 875, 918, 961, 995, 1018, 1041, 1104, 1127, 1150])) (by rw [b237]; decide) (u := 1041) (by rw [b237]; rfl) ?_
                                                                  refine en_segs [(1041, .aload_n 1, []), (1042, .aload_n 0, []), (1043, .iload_n 3, []), (1044, .iconst 1, []), (1045, .iadd, [])] (by decide +kernel) (y := (1046, [some (.ref sc), some (.ref a1), some (.ref a2), some (.int x3)], [.int (x3 + 1), .ref sc, .ref a1], h)) rfl ?_
                                                                  obtain ⟨v238, hv238, hF⟩ := ob_some hF
                                                                  refine en_sld (by decide +kernel : u_at kl_306 1046 = some (.iaload, [])) hW hsc hv238 ?_
                                                                  refine en_segs [(1047, .aload_n 0, []), (1048, .iload_n 3, []), (1049, .iconst 2, []), (1050, .iadd, [])] (by decide +kernel) (y := (1051, [some (.ref sc), some (.ref a1), some (.ref a2), some (.int x3)], [.int (x3 + 2), .ref sc, .int v238, .ref a1], h)) rfl ?_
                                                                  obtain ⟨v239, hv239, hF⟩ := ob_some hF
                                                                  refine en_sld (by decide +kernel : u_at kl_306 1051 = some (.iaload, [])) hW hsc hv239 ?_
                                                                  refine en_segs [(1052, .aload_n 0, []), (1053, .iload_n 3, []), (1054, .iconst 3, []), (1055, .iadd, [])] (by decide +kernel) (y := (1056, [some (.ref sc), some (.ref a1), some (.ref a2), some (.int x3)], [.int (x3 + 3), .ref sc, .int v239, .int v238, .ref a1], h)) rfl ?_
                                                                  obtain ⟨v240, hv240, hF⟩ := ob_some hF
                                                                  refine en_sld (by decide +kernel : u_at kl_306 1056 = some (.iaload, [])) hW hsc hv240 ?_
                                                                  refine en_segs [(1057, .aload_n 0, []), (1058, .iload_n 3, []), (1059, .iconst 4, []), (1060, .iadd, [])] (by decide +kernel) (y := (1061, [some (.ref sc), some (.ref a1), some (.ref a2), some (.int x3)], [.int (x3 + 4), .ref sc, .int v240, .int v239, .int v238, .ref a1], h)) rfl ?_
                                                                  obtain ⟨v241, hv241, hF⟩ := ob_some hF
                                                                  refine en_sld (by decide +kernel : u_at kl_306 1061 = some (.iaload, [])) hW hsc hv241 ?_
                                                                  refine en_segs [(1062, .aload_n 0, []), (1063, .iload_n 3, []), (1064, .iconst 5, []), (1065, .iadd, [])] (by decide +kernel) (y := (1066, [some (.ref sc), some (.ref a1), some (.ref a2), some (.int x3)], [.int (x3 + 5), .ref sc, .int v241, .int v240, .int v239, .int v238, .ref a1], h)) rfl ?_
                                                                  obtain ⟨v242, hv242, hF⟩ := ob_some hF
                                                                  refine en_sld (by decide +kernel : u_at kl_306 1066 = some (.iaload, [])) hW hsc hv242 ?_
                                                                  obtain ⟨r243, hr243, hF⟩ := ob_some hF
                                                                  refine en_vi (r := []) (by decide +kernel : u_at kl_306 1067 = some (.invokevirtual 139, [152, 5, 11])) hW ha1 rfl rfl (Nat.le_of_ble_eq_true rfl) (e_152 (D := D) (by omega) hW ha1 hr243) (fun h hW => ?_)
                                                                  have hW : HW (mkw c0 c1 c2 c3 c4 c5 c6 c7 r243.2.1 c9 c10 r243.2.2 c12 c13) d h := hW
                                                                  refine en_segs [(1070, .aload_n 2, []), (1071, .aload_n 0, []), (1072, .iload_n 3, []), (1073, .iconst 1, []), (1074, .iadd, [])] (by decide +kernel) (y := (1075, [some (.ref sc), some (.ref a1), some (.ref a2), some (.int x3)], [.int (x3 + 1), .ref sc, .ref a2, .int r243.1], h)) rfl ?_
                                                                  obtain ⟨v244, hv244, hF⟩ := ob_some hF
                                                                  refine en_sld (by decide +kernel : u_at kl_306 1075 = some (.iaload, [])) hW hsc hv244 ?_
                                                                  refine en_segs [(1076, .aload_n 0, []), (1077, .iload_n 3, []), (1078, .iconst 2, []), (1079, .iadd, [])] (by decide +kernel) (y := (1080, [some (.ref sc), some (.ref a1), some (.ref a2), some (.int x3)], [.int (x3 + 2), .ref sc, .int v244, .ref a2, .int r243.1], h)) rfl ?_
                                                                  obtain ⟨v245, hv245, hF⟩ := ob_some hF
                                                                  refine en_sld (by decide +kernel : u_at kl_306 1080 = some (.iaload, [])) hW hsc hv245 ?_
                                                                  refine en_segs [(1081, .aload_n 0, []), (1082, .iload_n 3, []), (1083, .iconst 3, []), (1084, .iadd, [])] (by decide +kernel) (y := (1085, [some (.ref sc), some (.ref a1), some (.ref a2), some (.int x3)], [.int (x3 + 3), .ref sc, .int v245, .int v244, .ref a2, .int r243.1], h)) rfl ?_
                                                                  obtain ⟨v246, hv246, hF⟩ := ob_some hF
                                                                  refine en_sld (by decide +kernel : u_at kl_306 1085 = some (.iaload, [])) hW hsc hv246 ?_
                                                                  refine en_segs [(1086, .aload_n 0, []), (1087, .iload_n 3, []), (1088, .iconst 4, []), (1089, .iadd, [])] (by decide +kernel) (y := (1090, [some (.ref sc), some (.ref a1), some (.ref a2), some (.int x3)], [.int (x3 + 4), .ref sc, .int v246, .int v245, .int v244, .ref a2, .int r243.1], h)) rfl ?_
                                                                  obtain ⟨v247, hv247, hF⟩ := ob_some hF
                                                                  refine en_sld (by decide +kernel : u_at kl_306 1090 = some (.iaload, [])) hW hsc hv247 ?_
                                                                  refine en_segs [(1091, .aload_n 0, []), (1092, .iload_n 3, []), (1093, .iconst 5, []), (1094, .iadd, [])] (by decide +kernel) (y := (1095, [some (.ref sc), some (.ref a1), some (.ref a2), some (.int x3)], [.int (x3 + 5), .ref sc, .int v247, .int v246, .int v245, .int v244, .ref a2, .int r243.1], h)) rfl ?_
                                                                  obtain ⟨v248, hv248, hF⟩ := ob_some hF
                                                                  refine en_sld (by decide +kernel : u_at kl_306 1095 = some (.iaload, [])) hW hsc hv248 ?_
                                                                  obtain ⟨r249, hr249, hF⟩ := ob_some hF
                                                                  refine en_vi (r := [.int r243.1]) (by decide +kernel : u_at kl_306 1096 = some (.invokevirtual 142, [295, 5, 12])) hW ha2 rfl rfl (Nat.le_of_ble_eq_true rfl) (e_295 (D := D) (by omega) hW ha2 hr249) (fun h hW => ?_)
                                                                  have hW : HW (mkw c0 c1 c2 c3 c4 c5 c6 c7 r243.2.1 c9 c10 r243.2.2 r249.2 c13) d h := hW
                                                                  refine en_ic_eq (by decide +kernel : u_at kl_306 1099 = some (.if_icmp .eq 74, [1173])) (fun b250 => ?_) (fun b250 => ?_)
                                                                  · replace hF := i_pos b250 hF
                                                                    refine en_segs [(1173, .iinc 3 6, []), (1176, .goto (-1158), [18])] (by decide +kernel) (y := (18, [some (.ref sc), some (.ref a1), some (.ref a2), some (.int (x3 + 6))], [], h)) rfl ?_
                                                                    exact (ih _ _ _ _ _ _ _ _ _ _ _ _ _ _ _ _ _ _ _ _ hF) _ rfl rfl rfl rfl  hsc ha1 ha2 _ hW _ hQ
                                                                  · replace hF := i_neg b250 hF
                                                                    refine en_segs [(1102, .iconst 0, [])] (by decide +kernel) (y := (1103, [some (.ref sc), some (.ref a1), some (.ref a2), some (.int x3)], [.int 0], h)) rfl ?_
                                                                    obtain rfl := Option.some.inj hF
                                                                    exact en_ret (by decide +kernel : u_at kl_306 1103 = some (.ireturn, [1])) rfl (hQ _ ⟨hW, Adx.rf⟩)
                                                                · replace hF := i_neg b237 hF
                                                                  by_cases b251 : v2 &&& 63 = 30
                                                                  · replace hF := i_pos b251 hF
                                                                    refine en_tsC (by decide +kernel : u_at kl_306 33 = some (.tableswitch 1140 0 32 #[147, 210, 233, 246, 259, 292, 325, 358, 391, 424, 483, 496, 519, 568, 581, 614, 647, 690, 704, 727, 740, 763, 786, 799, 842, 885, 928, 962, 985, 1008, 1071, 1094, 1117], [1173, 180, 243, 266, 279, 292, 325, 358, 391, 424, 457, 516, 529, 552, 601, 614, 647, 680, 723, 737, 760, 773, 796, 819, 832, 875, 918, 961, 995, 1018, 1041, 1104, 1127, 1150])) (by rw [b251]; decide) (u := 1104) (by rw [b251]; rfl) ?_
                                                                    refine en_segs [(1104, .aload_n 1, []), (1105, .aload_n 0, []), (1106, .iload_n 3, []), (1107, .iconst 1, []), (1108, .iadd, [])] (by decide +kernel) (y := (1109, [some (.ref sc), some (.ref a1), some (.ref a2), some (.int x3)], [.int (x3 + 1), .ref sc, .ref a1], h)) rfl ?_
                                                                    obtain ⟨v252, hv252, hF⟩ := ob_some hF
                                                                    refine en_sld (by decide +kernel : u_at kl_306 1109 = some (.iaload, [])) hW hsc hv252 ?_
                                                                    obtain ⟨r253, hr253, hF⟩ := ob_some hF
                                                                    refine en_vi (r := []) (by decide +kernel : u_at kl_306 1110 = some (.invokevirtual 143, [153, 1, 11])) hW ha1 rfl rfl (Nat.le_of_ble_eq_true rfl) (e_153 (D := D) (by omega) hW ha1 hr253) (fun h' q => ?_)
                                                                    subst q
                                                                    refine en_segs [(1113, .aload_n 2, []), (1114, .aload_n 0, []), (1115, .iload_n 3, []), (1116, .iconst 1, []), (1117, .iadd, [])] (by decide +kernel) (y := (1118, [some (.ref sc), some (.ref a1), some (.ref a2), some (.int x3)], [.int (x3 + 1), .ref sc, .ref a2, .int r253], h)) rfl ?_
                                                                    obtain ⟨v254, hv254, hF⟩ := ob_some hF
                                                                    refine en_sld (by decide +kernel : u_at kl_306 1118 = some (.iaload, [])) hW hsc hv254 ?_
                                                                    obtain ⟨r255, hr255, hF⟩ := ob_some hF
                                                                    refine en_vi (r := [.int r253]) (by decide +kernel : u_at kl_306 1119 = some (.invokevirtual 146, [296, 1, 12])) hW ha2 rfl rfl (Nat.le_of_ble_eq_true rfl) (e_296 (D := D) (by omega) hW ha2 hr255) (fun h' q => ?_)
                                                                    subst q
                                                                    refine en_ic_eq (by decide +kernel : u_at kl_306 1122 = some (.if_icmp .eq 51, [1173])) (fun b256 => ?_) (fun b256 => ?_)
                                                                    · replace hF := i_pos b256 hF
                                                                      refine en_segs [(1173, .iinc 3 6, []), (1176, .goto (-1158), [18])] (by decide +kernel) (y := (18, [some (.ref sc), some (.ref a1), some (.ref a2), some (.int (x3 + 6))], [], h)) rfl ?_
                                                                      exact (ih _ _ _ _ _ _ _ _ _ _ _ _ _ _ _ _ _ _ _ _ hF) _ rfl rfl rfl rfl  hsc ha1 ha2 _ hW _ hQ
                                                                    · replace hF := i_neg b256 hF
                                                                      refine en_segs [(1125, .iconst 0, [])] (by decide +kernel) (y := (1126, [some (.ref sc), some (.ref a1), some (.ref a2), some (.int x3)], [.int 0], h)) rfl ?_
                                                                      obtain rfl := Option.some.inj hF
                                                                      exact en_ret (by decide +kernel : u_at kl_306 1126 = some (.ireturn, [1])) rfl (hQ _ ⟨hW, Adx.rf⟩)
                                                                  · replace hF := i_neg b251 hF
                                                                    by_cases b257 : v2 &&& 63 = 31
                                                                    · replace hF := i_pos b257 hF
                                                                      refine en_tsC (by decide +kernel : u_at kl_306 33 = some (.tableswitch 1140 0 32 #[147, 210, 233, 246, 259, 292, 325, 358, 391, 424, 483, 496, 519, 568, 581, 614, 647, 690, 704, 727, 740, 763, 786, 799, 842, 885, 928, 962, 985, 1008, 1071, 1094, 1117], [1173, 180, 243, 266, 279, 292, 325, 358, 391, 424, 457, 516, 529, 552, 601, 614, 647, 680, 723, 737, 760, 773, 796, 819, 832, 875, 918, 961, 995, 1018, 1041, 1104, 1127, 1150])) (by rw [b257]; decide) (u := 1127) (by rw [b257]; rfl) ?_
                                                                      refine en_segs [(1127, .aload_n 1, []), (1128, .aload_n 0, []), (1129, .iload_n 3, []), (1130, .iconst 1, []), (1131, .iadd, [])] (by decide +kernel) (y := (1132, [some (.ref sc), some (.ref a1), some (.ref a2), some (.int x3)], [.int (x3 + 1), .ref sc, .ref a1], h)) rfl ?_
                                                                      obtain ⟨v258, hv258, hF⟩ := ob_some hF
                                                                      refine en_sld (by decide +kernel : u_at kl_306 1132 = some (.iaload, [])) hW hsc hv258 ?_
                                                                      obtain ⟨r259, hr259, hF⟩ := ob_some hF
                                                                      refine en_vi (r := []) (by decide +kernel : u_at kl_306 1133 = some (.invokevirtual 147, [154, 1, 11])) hW ha1 rfl rfl (Nat.le_of_ble_eq_true rfl) (e_154 (D := D) (by omega) hW ha1 hr259) (fun h q => ?_)
                                                                      obtain ⟨hW, X260⟩ := q
                                                                      have ha1 := X260.o ha1
                                                                      have ha2 := X260.o ha2
                                                                      have hsc := X260.s hsc
                                                                      have A261 := X260
                                                                      have hW : HW (mkw c0 c1 c2 c3 c4 c5 c6 c7 r259.2.1 c9 r259.2.2.1 r259.2.2.2.1 c12 c13) r259.2.2.2.2 h := hW
                                                                      refine en_segs [(1136, .aload_n 2, []), (1137, .aload_n 0, []), (1138, .iload_n 3, []), (1139, .iconst 1, []), (1140, .iadd, [])] (by decide +kernel) (y := (1141, [some (.ref sc), some (.ref a1), some (.ref a2), some (.int x3)], [.int (x3 + 1), .ref sc, .ref a2, .int r259.1], h)) rfl ?_
                                                                      obtain ⟨v262, hv262, hF⟩ := ob_some hF
                                                                      refine en_sld (by decide +kernel : u_at kl_306 1141 = some (.iaload, [])) hW hsc hv262 ?_
                                                                      obtain ⟨r263, hr263, hF⟩ := ob_some hF
                                                                      refine en_vi (r := [.int r259.1]) (by decide +kernel : u_at kl_306 1142 = some (.invokevirtual 150, [297, 1, 12])) hW ha2 rfl rfl (Nat.le_of_ble_eq_true rfl) (e_297 (D := D) (by omega) hW ha2 hr263) (fun h hW => ?_)
                                                                      have hW : HW (mkw c0 c1 c2 c3 c4 c5 c6 c7 r259.2.1 c9 r259.2.2.1 r259.2.2.2.1 r263.2 c13) r259.2.2.2.2 h := hW
                                                                      refine en_ic_eq (by decide +kernel : u_at kl_306 1145 = some (.if_icmp .eq 28, [1173])) (fun b264 => ?_) (fun b264 => ?_)
                                                                      · replace hF := i_pos b264 hF
                                                                        refine en_segs [(1173, .iinc 3 6, []), (1176, .goto (-1158), [18])] (by decide +kernel) (y := (18, [some (.ref sc), some (.ref a1), some (.ref a2), some (.int (x3 + 6))], [], h)) rfl ?_
                                                                        exact (ih _ _ _ _ _ _ _ _ _ _ _ _ _ _ _ _ _ _ _ _ hF) _ rfl rfl rfl rfl  hsc ha1 ha2 _ hW _ (fun h' p => hQ h' ⟨p.1, A261.trans p.2⟩)
                                                                      · replace hF := i_neg b264 hF
                                                                        refine en_segs [(1148, .iconst 0, [])] (by decide +kernel) (y := (1149, [some (.ref sc), some (.ref a1), some (.ref a2), some (.int x3)], [.int 0], h)) rfl ?_
                                                                        obtain rfl := Option.some.inj hF
                                                                        exact en_ret (by decide +kernel : u_at kl_306 1149 = some (.ireturn, [1])) rfl (hQ _ ⟨hW, A261⟩)
                                                                    · replace hF := i_neg b257 hF
                                                                      by_cases b265 : v2 &&& 63 = 32
                                                                      · replace hF := i_pos b265 hF
                                                                        refine en_tsC (by decide +kernel : u_at kl_306 33 = some (.tableswitch 1140 0 32 #[147, 210, 233, 246, 259, 292, 325, 358, 391, 424, 483, 496, 519, 568, 581, 614, 647, 690, 704, 727, 740, 763, 786, 799, 842, 885, 928, 962, 985, 1008, 1071, 1094, 1117], [1173, 180, 243, 266, 279, 292, 325, 358, 391, 424, 457, 516, 529, 552, 601, 614, 647, 680, 723, 737, 760, 773, 796, 819, 832, 875, 918, 961, 995, 1018, 1041, 1104, 1127, 1150])) (by rw [b265]; decide) (u := 1150) (by rw [b265]; rfl) ?_
                                                                        refine en_segs [(1150, .aload_n 1, []), (1151, .aload_n 0, []), (1152, .iload_n 3, []), (1153, .iconst 1, []), (1154, .iadd, [])] (by decide +kernel) (y := (1155, [some (.ref sc), some (.ref a1), some (.ref a2), some (.int x3)], [.int (x3 + 1), .ref sc, .ref a1], h)) rfl ?_
                                                                        obtain ⟨v266, hv266, hF⟩ := ob_some hF
                                                                        refine en_sld (by decide +kernel : u_at kl_306 1155 = some (.iaload, [])) hW hsc hv266 ?_
                                                                        obtain ⟨r267, hr267, hF⟩ := ob_some hF
                                                                        refine en_vi (r := []) (by decide +kernel : u_at kl_306 1156 = some (.invokevirtual 151, [155, 1, 11])) hW ha1 rfl rfl (Nat.le_of_ble_eq_true rfl) (e_155 (D := D) (by omega) hW ha1 hr267) (fun h hW => ?_)
                                                                        have hW : HW (mkw c0 c1 c2 c3 c4 c5 c6 r267.2.1 r267.2.2.1 c9 r267.2.2.2 c11 c12 c13) d h := hW
                                                                        refine en_segs [(1159, .aload_n 2, []), (1160, .aload_n 0, []), (1161, .iload_n 3, []), (1162, .iconst 1, []), (1163, .iadd, [])] (by decide +kernel) (y := (1164, [some (.ref sc), some (.ref a1), some (.ref a2), some (.int x3)], [.int (x3 + 1), .ref sc, .ref a2, .int r267.1], h)) rfl ?_
                                                                        obtain ⟨v268, hv268, hF⟩ := ob_some hF
                                                                        refine en_sld (by decide +kernel : u_at kl_306 1164 = some (.iaload, [])) hW hsc hv268 ?_
                                                                        obtain ⟨r269, hr269, hF⟩ := ob_some hF
                                                                        refine en_vi (r := [.int r267.1]) (by decide +kernel : u_at kl_306 1165 = some (.invokevirtual 154, [298, 1, 12])) hW ha2 rfl rfl (Nat.le_of_ble_eq_true rfl) (e_298 (D := D) (by omega) hW ha2 hr269) (fun h hW => ?_)
                                                                        have hW : HW (mkw c0 c1 c2 c3 c4 c5 c6 r267.2.1 r267.2.2.1 c9 r267.2.2.2 c11 r269.2 c13) d h := hW
                                                                        refine en_ic_eq (by decide +kernel : u_at kl_306 1168 = some (.if_icmp .eq 5, [1173])) (fun b270 => ?_) (fun b270 => ?_)
                                                                        · replace hF := i_pos b270 hF
                                                                          refine en_segs [(1173, .iinc 3 6, []), (1176, .goto (-1158), [18])] (by decide +kernel) (y := (18, [some (.ref sc), some (.ref a1), some (.ref a2), some (.int (x3 + 6))], [], h)) rfl ?_
                                                                          exact (ih _ _ _ _ _ _ _ _ _ _ _ _ _ _ _ _ _ _ _ _ hF) _ rfl rfl rfl rfl  hsc ha1 ha2 _ hW _ hQ
                                                                        · replace hF := i_neg b270 hF
                                                                          refine en_segs [(1171, .iconst 0, [])] (by decide +kernel) (y := (1172, [some (.ref sc), some (.ref a1), some (.ref a2), some (.int x3)], [.int 0], h)) rfl ?_
                                                                          obtain rfl := Option.some.inj hF
                                                                          exact en_ret (by decide +kernel : u_at kl_306 1172 = some (.ireturn, [1])) rfl (hQ _ ⟨hW, Adx.rf⟩)
                                                                      · replace hF := i_neg b265 hF
                                                                        have wb3 : (v2 &&& 63 : Int32).toInt ≠ 0 := ti_ne b3
                                                                        have wb17 : (v2 &&& 63 : Int32).toInt ≠ 1 := ti_ne b17
                                                                        have wb23 : (v2 &&& 63 : Int32).toInt ≠ 2 := ti_ne b23
                                                                        have wb29 : (v2 &&& 63 : Int32).toInt ≠ 3 := ti_ne b29
                                                                        have wb35 : (v2 &&& 63 : Int32).toInt ≠ 4 := ti_ne b35
                                                                        have wb43 : (v2 &&& 63 : Int32).toInt ≠ 5 := ti_ne b43
                                                                        have wb51 : (v2 &&& 63 : Int32).toInt ≠ 6 := ti_ne b51
                                                                        have wb59 : (v2 &&& 63 : Int32).toInt ≠ 7 := ti_ne b59
                                                                        have wb67 : (v2 &&& 63 : Int32).toInt ≠ 8 := ti_ne b67
                                                                        have wb75 : (v2 &&& 63 : Int32).toInt ≠ 9 := ti_ne b75
                                                                        have wb91 : (v2 &&& 63 : Int32).toInt ≠ 10 := ti_ne b91
                                                                        have wb95 : (v2 &&& 63 : Int32).toInt ≠ 11 := ti_ne b95
                                                                        have wb101 : (v2 &&& 63 : Int32).toInt ≠ 12 := ti_ne b101
                                                                        have wb115 : (v2 &&& 63 : Int32).toInt ≠ 13 := ti_ne b115
                                                                        have wb119 : (v2 &&& 63 : Int32).toInt ≠ 14 := ti_ne b119
                                                                        have wb127 : (v2 &&& 63 : Int32).toInt ≠ 15 := ti_ne b127
                                                                        have wb135 : (v2 &&& 63 : Int32).toInt ≠ 16 := ti_ne b135
                                                                        have wb145 : (v2 &&& 63 : Int32).toInt ≠ 17 := ti_ne b145
                                                                        have wb151 : (v2 &&& 63 : Int32).toInt ≠ 18 := ti_ne b151
                                                                        have wb159 : (v2 &&& 63 : Int32).toInt ≠ 19 := ti_ne b159
                                                                        have wb165 : (v2 &&& 63 : Int32).toInt ≠ 20 := ti_ne b165
                                                                        have wb173 : (v2 &&& 63 : Int32).toInt ≠ 21 := ti_ne b173
                                                                        have wb179 : (v2 &&& 63 : Int32).toInt ≠ 22 := ti_ne b179
                                                                        have wb183 : (v2 &&& 63 : Int32).toInt ≠ 23 := ti_ne b183
                                                                        have wb193 : (v2 &&& 63 : Int32).toInt ≠ 24 := ti_ne b193
                                                                        have wb205 : (v2 &&& 63 : Int32).toInt ≠ 25 := ti_ne b205
                                                                        have wb217 : (v2 &&& 63 : Int32).toInt ≠ 26 := ti_ne b217
                                                                        have wb225 : (v2 &&& 63 : Int32).toInt ≠ 27 := ti_ne b225
                                                                        have wb231 : (v2 &&& 63 : Int32).toInt ≠ 28 := ti_ne b231
                                                                        have wb237 : (v2 &&& 63 : Int32).toInt ≠ 29 := ti_ne b237
                                                                        have wb251 : (v2 &&& 63 : Int32).toInt ≠ 30 := ti_ne b251
                                                                        have wb257 : (v2 &&& 63 : Int32).toInt ≠ 31 := ti_ne b257
                                                                        have wb265 : (v2 &&& 63 : Int32).toInt ≠ 32 := ti_ne b265
                                                                        refine en_tsO (by decide +kernel : u_at kl_306 33 = some (.tableswitch 1140 0 32 #[147, 210, 233, 246, 259, 292, 325, 358, 391, 424, 483, 496, 519, 568, 581, 614, 647, 690, 704, 727, 740, 763, 786, 799, 842, 885, 928, 962, 985, 1008, 1071, 1094, 1117], [1173, 180, 243, 266, 279, 292, 325, 358, 391, 424, 457, 516, 529, 552, 601, 614, 647, 680, 723, 737, 760, 773, 796, 819, 832, 875, 918, 961, 995, 1018, 1041, 1104, 1127, 1150])) (by omega) ?_
                                                                        refine en_segs [(1173, .iinc 3 6, []), (1176, .goto (-1158), [18])] (by decide +kernel) (y := (18, [some (.ref sc), some (.ref a1), some (.ref a2), some (.int (x3 + 6))], [], h)) rfl ?_
                                                                        exact (ih _ _ _ _ _ _ _ _ _ _ _ _ _ _ _ _ _ _ _ _ hF) _ rfl rfl rfl rfl  hsc ha1 ha2 _ hW _ hQ
def F_306 (c0 : Cl) (c1 : Cl) (c2 : Cl) (c3 : Cl) (c4 : Cl) (c5 : Cl) (c6 : Cl) (c7 : Cl) (c8 : Cl) (c9 : Cl) (c10 : Cl) (c11 : Cl) (c12 : Cl) (c13 : Cl) (d : Ad) (sc : Nat) (a1 : Nat) (a2 : Nat) : Option (Int32 × Cl × Cl × Cl × Cl × Cl × Cl × Cl × Cl × Cl × Cl × Cl × Cl × Cl × Cl × Ad) :=
  G_306 sc a1 a2 600 0 [0] [] [] c0 c1 c2 c3 c4 c5 c6 c7 c8 c9 c10 c11 c12 c13 d
set_option maxRecDepth 100000 in
set_option maxHeartbeats 4000000 in
/-- HeadCountsLaw.law -/
theorem t_306 {D : Nat} {c0 c1 c2 c3 c4 c5 c6 c7 c8 c9 c10 c11 c12 c13 : Cl} {d : Ad} {h : UH} {sc : Nat} {a1 : Nat} {a2 : Nat} {r : (Int32 × Cl × Cl × Cl × Cl × Cl × Cl × Cl × Cl × Cl × Cl × Cl × Cl × Cl × Cl × Ad)} (hD : 48 ≤ D + 1) (hW : HW (mkw c0 c1 c2 c3 c4 c5 c6 c7 c8 c9 c10 c11 c12 c13) d h) (hsc : aK d sc = (8, 0, 0)) (ha1 : aK d a1 = (0, 11, 0)) (ha2 : aK d a2 = (0, 12, 0)) (hF : F_306 c0 c1 c2 c3 c4 c5 c6 c7 c8 c9 c10 c11 c12 c13 d sc a1 a2 = some r) (QQ : UR → Prop) (hQ : (∀ h' : UH, HX d (mkw r.2.1 r.2.2.1 r.2.2.2.1 r.2.2.2.2.1 r.2.2.2.2.2.1 r.2.2.2.2.2.2.1 r.2.2.2.2.2.2.2.1 r.2.2.2.2.2.2.2.2.1 r.2.2.2.2.2.2.2.2.2.1 r.2.2.2.2.2.2.2.2.2.2.1 r.2.2.2.2.2.2.2.2.2.2.2.1 r.2.2.2.2.2.2.2.2.2.2.2.2.1 r.2.2.2.2.2.2.2.2.2.2.2.2.2.1 r.2.2.2.2.2.2.2.2.2.2.2.2.2.2.1) r.2.2.2.2.2.2.2.2.2.2.2.2.2.2.2 h' → QQ (some (.int r.1), h'))) : Ends (EX D) (u_at kl_306) (16, [some (.ref sc), some (.ref a1), some (.ref a2), none], [], h) QQ := by
  unfold F_306 at hF
  refine en_segs [(16, .iconst 0, []), (17, .istore_n 3, [])] (by decide +kernel) (y := (18, [some (.ref sc), some (.ref a1), some (.ref a2), some (.int 0)], [], h)) rfl ?_
  exact (g_306 (D := D) hD _ _ _ _ _ _ _ _ _ _ _ _ _ _ _ _ _ _ _ _ _ hF) _ rfl rfl rfl rfl  hsc ha1 ha2 _ hW _ hQ
