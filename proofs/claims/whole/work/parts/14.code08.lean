def kl_300 : List (Nat × UI × Nat) := [(0, (.iload_n 0, []), 0), (1, (.iload_n 0, []), 0), (2, (.iconst 1, []), 0), (3, (.iushr, []), 0), (4, (.ldc_w 265, []), 0), (7, (.iand, []), 0), (8, (.isub, []), 0), (9, (.istore_n 0, []), 0), (10, (.iload_n 0, []), 0), (11, (.ldc_w 266, []), 0), (14, (.iand, []), 0), (15, (.iload_n 0, []), 0), (16, (.iconst 2, []), 0), (17, (.iushr, []), 0), (18, (.ldc_w 266, []), 0), (21, (.iand, []), 0), (22, (.iadd, []), 0), (23, (.istore_n 0, []), 0), (24, (.iload_n 0, []), 0), (25, (.iload_n 0, []), 0), (26, (.iconst 4, []), 0), (27, (.iushr, []), 0), (28, (.iadd, []), 0), (29, (.ldc_w 267, []), 0), (32, (.iand, []), 0), (33, (.istore_n 0, []), 0), (34, (.iload_n 0, []), 0), (35, (.iload_n 0, []), 0), (36, (.bipush 8, []), 0), (38, (.iushr, []), 0), (39, (.iadd, []), 0), (40, (.istore_n 0, []), 0), (41, (.iload_n 0, []), 0), (42, (.iload_n 0, []), 0), (43, (.bipush 16, []), 0), (45, (.iushr, []), 0), (46, (.iadd, []), 0), (47, (.istore_n 0, []), 0), (48, (.iload_n 0, []), 0), (49, (.bipush 63, []), 0), (51, (.iand, []), 0), (52, (.ireturn, [0]), 0)]
theorem mo_300 : m_ok (u_mt 300) := m_okb_ok (p0 := 1809) (p1 := 277) (p2 := 1808) (p3 := 0) rfl (by decide +kernel)
theorem ko_300 : u_okl (u_mt 300) kl_300 = true := by decide +kernel
def kl_301 : List (Nat × UI × Nat) := [(0, (.iload_n 0, []), 0), (1, (.iload_n 1, []), 0), (2, (.if_icmp .lt 7, [9]), 0), (5, (.iload_n 0, []), 0), (6, (.goto 4, [10]), 0), (9, (.iload_n 1, []), 0), (10, (.ireturn, [0]), 0)]
theorem mo_301 : m_ok (u_mt 301) := m_okb_ok (p0 := 1677) (p1 := 270) (p2 := 1676) (p3 := 0) rfl (by decide +kernel)
theorem ko_301 : u_okl (u_mt 301) kl_301 = true := by decide +kernel
def kl_302 : List (Nat × UI × Nat) := [(0, (.iload_n 0, []), 0), (1, (.iload_n 1, []), 0), (2, (.if_icmp .gt 7, [9]), 0), (5, (.iload_n 0, []), 0), (6, (.goto 4, [10]), 0), (9, (.iload_n 1, []), 0), (10, (.ireturn, [0]), 0)]
theorem mo_302 : m_ok (u_mt 302) := m_okb_ok (p0 := 1044) (p1 := 270) (p2 := 1043) (p3 := 0) rfl (by decide +kernel)
theorem ko_302 : u_okl (u_mt 302) kl_302 = true := by decide +kernel
def kl_303 : List (Nat × UI × Nat) := [(0, (.iconst 0, []), 0), (1, (.istore_n 3, []), 0), (2, (.aload_n 0, []), 0), (3, (.arraylength, []), 0), (4, (.istore 4, []), 0), (6, (.iload_n 3, []), 0), (7, (.iload 4, []), 0), (9, (.if_icmp .ge 13, [22]), 0), (12, (.aload_n 0, []), 0), (13, (.iload_n 3, []), 0), (14, (.lload_n 1, []), 0), (15, (.lastore, []), 0), (16, (.iinc 3 1, []), 0), (19, (.goto (-13), [6]), 0), (22, (.return_, []), 0)]
theorem mo_303 : m_ok (u_mt 303) := m_okb_ok (p0 := 1664) (p1 := 263) (p2 := 1647) (p3 := 0) rfl (by decide +kernel)
theorem ko_303 : u_okl (u_mt 303) kl_303 = true := by decide +kernel
def kl_304 : List (Nat × UI × Nat) := [(0, (.iconst 0, []), 0), (1, (.istore_n 2, []), 0), (2, (.aload_n 0, []), 0), (3, (.arraylength, []), 0), (4, (.istore_n 3, []), 0), (5, (.iload_n 2, []), 0), (6, (.iload_n 3, []), 0), (7, (.if_icmp .ge 13, [20]), 0), (10, (.aload_n 0, []), 0), (11, (.iload_n 2, []), 0), (12, (.iload_n 1, []), 0), (13, (.iastore, []), 0), (14, (.iinc 2 1, []), 0), (17, (.goto (-12), [5]), 0), (20, (.return_, []), 0)]
theorem mo_304 : m_ok (u_mt 304) := m_okb_ok (p0 := 404) (p1 := 263) (p2 := 403) (p3 := 0) rfl (by decide +kernel)
theorem ko_304 : u_okl (u_mt 304) kl_304 = true := by decide +kernel
def kl_305 : List (Nat × UI × Nat) := []
theorem mo_305 : m_ok (u_mt 305) := m_okb_ok (p0 := 1348) (p1 := 263) (p2 := 1347) (p3 := 0) rfl (by decide +kernel)
theorem ko_305 : u_okl (u_mt 305) kl_305 = true := by decide +kernel
