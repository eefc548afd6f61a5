/-! ===== what is known of the methods, all of them (by program) ===== -/
def m_P (mi : Nat) : Prop := (∃ pc i, u_cd mi pc = some i) → m_ok2 (u_mt mi) ∧ ∀ pc i, u_cd mi pc = some i → ∃ pl, u_ok (u_mt mi).1.cls (u_mt mi).2.1 (u_mt mi).2.2.2.1 ((u_mt mi).2.2.2.2.1 == 2 || (u_mt mi).2.2.2.2.1 == 3) pc i pl = true ∧ c_ok u_mt (u_mt mi).1.cls i
theorem m_Pk {mi : Nat} {kl : List (Nat × UI × Nat)} (hk : kls.getD mi [] = kl) (hm : m_ok2 (u_mt mi)) (ho : u_okl (u_mt mi) kl = true) : m_P mi := fun _ => ⟨hm, fun pc i h => u_okl_ok ho pc i (by unfold u_cd at h; rw [hk] at h; exact h)⟩
theorem m_P0 {mi : Nat} (hk : kls.getD mi [] = []) : m_P mi := fun ⟨pc, i, h⟩ => by
  unfold u_cd at h
  rw [hk] at h
  cases h
theorem m_C0 : ∀ r, r < 16 → m_P (0 + r) := fun r h => match r, h with
  | 0, _ => m_Pk (mi := 0) (kl := kl_0) rfl mo_0.two ko_0
  | 1, _ => m_Pk (mi := 1) (kl := kl_1) rfl mo_1.two ko_1
  | 2, _ => m_Pk (mi := 2) (kl := kl_2) rfl mo_2.two ko_2
  | 3, _ => m_Pk (mi := 3) (kl := kl_3) rfl mo_3.two ko_3
  | 4, _ => m_Pk (mi := 4) (kl := kl_4) rfl mo_4.two ko_4
  | 5, _ => m_Pk (mi := 5) (kl := kl_5) rfl mo_5.two ko_5
  | 6, _ => m_Pk (mi := 6) (kl := kl_6) rfl mo_6.two ko_6
  | 7, _ => m_Pk (mi := 7) (kl := kl_7) rfl mo_7.two ko_7
  | 8, _ => m_Pk (mi := 8) (kl := kl_8) rfl mo_8.two ko_8
  | 9, _ => m_Pk (mi := 9) (kl := kl_9) rfl mo_9.two ko_9
  | 10, _ => m_Pk (mi := 10) (kl := kl_10) rfl mo_10.two ko_10
  | 11, _ => m_Pk (mi := 11) (kl := kl_11) rfl mo_11.two ko_11
  | 12, _ => m_Pk (mi := 12) (kl := kl_12) rfl mo_12.two ko_12
  | 13, _ => m_Pk (mi := 13) (kl := kl_13) rfl mo_13.two ko_13
  | 14, _ => m_Pk (mi := 14) (kl := kl_14) rfl mo_14.two ko_14
  | 15, _ => m_Pk (mi := 15) (kl := kl_15) rfl mo_15.two ko_15
  | n + 16, h => absurd h (by omega)
theorem m_C1 : ∀ r, r < 16 → m_P (16 + r) := fun r h => match r, h with
  | 0, _ => m_Pk (mi := 16) (kl := kl_16) rfl mo_16.two ko_16
  | 1, _ => m_Pk (mi := 17) (kl := kl_17) rfl mo_17.two ko_17
  | 2, _ => m_Pk (mi := 18) (kl := kl_18) rfl mo_18.two ko_18
  | 3, _ => m_Pk (mi := 19) (kl := kl_19) rfl mo_19.two ko_19
  | 4, _ => m_Pk (mi := 20) (kl := kl_20) rfl mo_20.two ko_20
  | 5, _ => m_Pk (mi := 21) (kl := kl_21) rfl mo_21.two ko_21
  | 6, _ => m_Pk (mi := 22) (kl := kl_22) rfl mo_22.two ko_22
  | 7, _ => m_Pk (mi := 23) (kl := kl_23) rfl mo_23.two ko_23
  | 8, _ => m_Pk (mi := 24) (kl := kl_24) rfl mo_24.two ko_24
  | 9, _ => m_Pk (mi := 25) (kl := kl_25) rfl mo_25.two ko_25
  | 10, _ => m_Pk (mi := 26) (kl := kl_26) rfl mo_26.two ko_26
  | 11, _ => m_Pk (mi := 27) (kl := kl_27) rfl mo_27.two ko_27
  | 12, _ => m_Pk (mi := 28) (kl := kl_28) rfl mo_28.two ko_28
  | 13, _ => m_Pk (mi := 29) (kl := kl_29) rfl mo_29.two ko_29
  | 14, _ => m_Pk (mi := 30) (kl := kl_30) rfl mo_30.two ko_30
  | 15, _ => m_Pk (mi := 31) (kl := kl_31) rfl mo_31.two ko_31
  | n + 16, h => absurd h (by omega)
theorem m_C2 : ∀ r, r < 16 → m_P (32 + r) := fun r h => match r, h with
  | 0, _ => m_Pk (mi := 32) (kl := kl_32) rfl mo_32.two ko_32
  | 1, _ => m_Pk (mi := 33) (kl := kl_33) rfl mo_33.two ko_33
  | 2, _ => m_Pk (mi := 34) (kl := kl_34) rfl mo_34.two ko_34
  | 3, _ => m_Pk (mi := 35) (kl := kl_35) rfl mo_35.two ko_35
  | 4, _ => m_Pk (mi := 36) (kl := kl_36) rfl mo_36.two ko_36
  | 5, _ => m_Pk (mi := 37) (kl := kl_37) rfl mo_37.two ko_37
  | 6, _ => m_Pk (mi := 38) (kl := kl_38) rfl mo_38.two ko_38
  | 7, _ => m_Pk (mi := 39) (kl := kl_39) rfl mo_39.two ko_39
  | 8, _ => m_Pk (mi := 40) (kl := kl_40) rfl mo_40.two ko_40
  | 9, _ => m_Pk (mi := 41) (kl := kl_41) rfl mo_41.two ko_41
  | 10, _ => m_Pk (mi := 42) (kl := kl_42) rfl mo_42.two ko_42
  | 11, _ => m_Pk (mi := 43) (kl := kl_43) rfl mo_43.two ko_43
  | 12, _ => m_Pk (mi := 44) (kl := kl_44) rfl mo_44.two ko_44
  | 13, _ => m_Pk (mi := 45) (kl := kl_45) rfl mo_45.two ko_45
  | 14, _ => m_Pk (mi := 46) (kl := kl_46) rfl mo_46.two ko_46
  | 15, _ => m_Pk (mi := 47) (kl := kl_47) rfl mo_47.two ko_47
  | n + 16, h => absurd h (by omega)
theorem m_C3 : ∀ r, r < 16 → m_P (48 + r) := fun r h => match r, h with
  | 0, _ => m_Pk (mi := 48) (kl := kl_48) rfl mo_48.two ko_48
  | 1, _ => m_Pk (mi := 49) (kl := kl_49) rfl mo_49.two ko_49
  | 2, _ => m_Pk (mi := 50) (kl := kl_50) rfl mo_50.two ko_50
  | 3, _ => m_Pk (mi := 51) (kl := kl_51) rfl mo_51.two ko_51
  | 4, _ => m_Pk (mi := 52) (kl := kl_52) rfl mo_52.two ko_52
  | 5, _ => m_Pk (mi := 53) (kl := kl_53) rfl mo_53.two ko_53
  | 6, _ => m_Pk (mi := 54) (kl := kl_54) rfl mo_54.two ko_54
  | 7, _ => m_Pk (mi := 55) (kl := kl_55) rfl mo_55.two ko_55
  | 8, _ => m_Pk (mi := 56) (kl := kl_56) rfl mo_56.two ko_56
  | 9, _ => m_Pk (mi := 57) (kl := kl_57) rfl mo_57.two ko_57
  | 10, _ => m_Pk (mi := 58) (kl := kl_58) rfl mo_58.two ko_58
  | 11, _ => m_Pk (mi := 59) (kl := kl_59) rfl mo_59.two ko_59
  | 12, _ => m_Pk (mi := 60) (kl := kl_60) rfl mo_60.two ko_60
  | 13, _ => m_Pk (mi := 61) (kl := kl_61) rfl mo_61.two ko_61
  | 14, _ => m_Pk (mi := 62) (kl := kl_62) rfl mo_62.two ko_62
  | 15, _ => m_Pk (mi := 63) (kl := kl_63) rfl mo_63.two ko_63
  | n + 16, h => absurd h (by omega)
theorem m_C4 : ∀ r, r < 16 → m_P (64 + r) := fun r h => match r, h with
  | 0, _ => m_Pk (mi := 64) (kl := kl_64) rfl mo_64.two ko_64
  | 1, _ => m_Pk (mi := 65) (kl := kl_65) rfl mo_65.two ko_65
  | 2, _ => m_Pk (mi := 66) (kl := kl_66) rfl mo_66.two ko_66
  | 3, _ => m_Pk (mi := 67) (kl := kl_67) rfl mo_67.two ko_67
  | 4, _ => m_Pk (mi := 68) (kl := kl_68) rfl mo_68.two ko_68
  | 5, _ => m_Pk (mi := 69) (kl := kl_69) rfl mo_69.two ko_69
  | 6, _ => m_Pk (mi := 70) (kl := kl_70) rfl mo_70.two ko_70
  | 7, _ => m_Pk (mi := 71) (kl := kl_71) rfl mo_71.two ko_71
  | 8, _ => m_Pk (mi := 72) (kl := kl_72) rfl mo_72.two ko_72
  | 9, _ => m_Pk (mi := 73) (kl := kl_73) rfl mo_73.two ko_73
  | 10, _ => m_Pk (mi := 74) (kl := kl_74) rfl mo_74.two ko_74
  | 11, _ => m_Pk (mi := 75) (kl := kl_75) rfl mo_75.two ko_75
  | 12, _ => m_Pk (mi := 76) (kl := kl_76) rfl mo_76.two ko_76
  | 13, _ => m_Pk (mi := 77) (kl := kl_77) rfl mo_77.two ko_77
  | 14, _ => m_Pk (mi := 78) (kl := kl_78) rfl mo_78.two ko_78
  | 15, _ => m_Pk (mi := 79) (kl := kl_79) rfl mo_79.two ko_79
  | n + 16, h => absurd h (by omega)
theorem m_C5 : ∀ r, r < 16 → m_P (80 + r) := fun r h => match r, h with
  | 0, _ => m_Pk (mi := 80) (kl := kl_80) rfl mo_80.two ko_80
  | 1, _ => m_Pk (mi := 81) (kl := kl_81) rfl mo_81.two ko_81
  | 2, _ => m_Pk (mi := 82) (kl := kl_82) rfl mo_82.two ko_82
  | 3, _ => m_Pk (mi := 83) (kl := kl_83) rfl mo_83.two ko_83
  | 4, _ => m_Pk (mi := 84) (kl := kl_84) rfl mo_84.two ko_84
  | 5, _ => m_Pk (mi := 85) (kl := kl_85) rfl mo_85.two ko_85
  | 6, _ => m_Pk (mi := 86) (kl := kl_86) rfl mo_86.two ko_86
  | 7, _ => m_Pk (mi := 87) (kl := kl_87) rfl mo_87.two ko_87
  | 8, _ => m_Pk (mi := 88) (kl := kl_88) rfl mo_88.two ko_88
  | 9, _ => m_Pk (mi := 89) (kl := kl_89) rfl mo_89.two ko_89
  | 10, _ => m_Pk (mi := 90) (kl := kl_90) rfl mo_90.two ko_90
  | 11, _ => m_Pk (mi := 91) (kl := kl_91) rfl mo_91.two ko_91
  | 12, _ => m_Pk (mi := 92) (kl := kl_92) rfl mo_92.two ko_92
  | 13, _ => m_Pk (mi := 93) (kl := kl_93) rfl mo_93.two ko_93
  | 14, _ => m_Pk (mi := 94) (kl := kl_94) rfl mo_94.two ko_94
  | 15, _ => m_Pk (mi := 95) (kl := kl_95) rfl mo_95.two ko_95
  | n + 16, h => absurd h (by omega)
theorem m_C6 : ∀ r, r < 16 → m_P (96 + r) := fun r h => match r, h with
  | 0, _ => m_Pk (mi := 96) (kl := kl_96) rfl mo_96.two ko_96
  | 1, _ => m_Pk (mi := 97) (kl := kl_97) rfl mo_97.two ko_97
  | 2, _ => m_Pk (mi := 98) (kl := kl_98) rfl mo_98.two ko_98
  | 3, _ => m_Pk (mi := 99) (kl := kl_99) rfl mo_99.two ko_99
  | 4, _ => m_Pk (mi := 100) (kl := kl_100) rfl mo_100.two ko_100
  | 5, _ => m_Pk (mi := 101) (kl := kl_101) rfl mo_101.two ko_101
  | 6, _ => m_Pk (mi := 102) (kl := kl_102) rfl mo_102.two ko_102
  | 7, _ => m_Pk (mi := 103) (kl := kl_103) rfl mo_103.two ko_103
  | 8, _ => m_Pk (mi := 104) (kl := kl_104) rfl mo_104.two ko_104
  | 9, _ => m_Pk (mi := 105) (kl := kl_105) rfl mo_105.two ko_105
  | 10, _ => m_Pk (mi := 106) (kl := kl_106) rfl mo_106.two ko_106
  | 11, _ => m_Pk (mi := 107) (kl := kl_107) rfl mo_107.two ko_107
  | 12, _ => m_Pk (mi := 108) (kl := kl_108) rfl mo_108.two ko_108
  | 13, _ => m_Pk (mi := 109) (kl := kl_109) rfl mo_109.two ko_109
  | 14, _ => m_Pk (mi := 110) (kl := kl_110) rfl mo_110.two ko_110
  | 15, _ => m_Pk (mi := 111) (kl := kl_111) rfl mo_111.two ko_111
  | n + 16, h => absurd h (by omega)
theorem m_C7 : ∀ r, r < 16 → m_P (112 + r) := fun r h => match r, h with
  | 0, _ => m_Pk (mi := 112) (kl := kl_112) rfl mo_112.two ko_112
  | 1, _ => m_Pk (mi := 113) (kl := kl_113) rfl mo_113.two ko_113
  | 2, _ => m_Pk (mi := 114) (kl := kl_114) rfl mo_114.two ko_114
  | 3, _ => m_Pk (mi := 115) (kl := kl_115) rfl mo_115.two ko_115
  | 4, _ => m_Pk (mi := 116) (kl := kl_116) rfl mo_116.two ko_116
  | 5, _ => m_Pk (mi := 117) (kl := kl_117) rfl mo_117.two ko_117
  | 6, _ => m_Pk (mi := 118) (kl := kl_118) rfl mo_118.two ko_118
  | 7, _ => m_Pk (mi := 119) (kl := kl_119) rfl mo_119.two ko_119
  | 8, _ => m_Pk (mi := 120) (kl := kl_120) rfl mo_120.two ko_120
  | 9, _ => m_Pk (mi := 121) (kl := kl_121) rfl mo_121.two ko_121
  | 10, _ => m_Pk (mi := 122) (kl := kl_122) rfl mo_122.two ko_122
  | 11, _ => m_Pk (mi := 123) (kl := kl_123) rfl mo_123.two ko_123
  | 12, _ => m_Pk (mi := 124) (kl := kl_124) rfl mo_124.two ko_124
  | 13, _ => m_Pk (mi := 125) (kl := kl_125) rfl mo_125.two ko_125
  | 14, _ => m_Pk (mi := 126) (kl := kl_126) rfl mo_126.two ko_126
  | 15, _ => m_Pk (mi := 127) (kl := kl_127) rfl mo_127.two ko_127
  | n + 16, h => absurd h (by omega)
theorem m_C8 : ∀ r, r < 16 → m_P (128 + r) := fun r h => match r, h with
  | 0, _ => m_Pk (mi := 128) (kl := kl_128) rfl mo_128.two ko_128
  | 1, _ => m_Pk (mi := 129) (kl := kl_129) rfl mo_129.two ko_129
  | 2, _ => m_Pk (mi := 130) (kl := kl_130) rfl mo_130.two ko_130
  | 3, _ => m_Pk (mi := 131) (kl := kl_131) rfl mo_131.two ko_131
  | 4, _ => m_Pk (mi := 132) (kl := kl_132) rfl mo_132.two ko_132
  | 5, _ => m_Pk (mi := 133) (kl := kl_133) rfl mo_133.two ko_133
  | 6, _ => m_Pk (mi := 134) (kl := kl_134) rfl mo_134.two ko_134
  | 7, _ => m_Pk (mi := 135) (kl := kl_135) rfl mo_135.two ko_135
  | 8, _ => m_Pk (mi := 136) (kl := kl_136) rfl mo_136.two ko_136
  | 9, _ => m_Pk (mi := 137) (kl := kl_137) rfl mo_137.two ko_137
  | 10, _ => m_Pk (mi := 138) (kl := kl_138) rfl mo_138.two ko_138
  | 11, _ => m_Pk (mi := 139) (kl := kl_139) rfl mo_139.two ko_139
  | 12, _ => m_Pk (mi := 140) (kl := kl_140) rfl mo_140.two ko_140
  | 13, _ => m_Pk (mi := 141) (kl := kl_141) rfl mo_141.two ko_141
  | 14, _ => m_Pk (mi := 142) (kl := kl_142) rfl mo_142.two ko_142
  | 15, _ => m_Pk (mi := 143) (kl := kl_143) rfl mo_143.two ko_143
  | n + 16, h => absurd h (by omega)
theorem m_C9 : ∀ r, r < 16 → m_P (144 + r) := fun r h => match r, h with
  | 0, _ => m_Pk (mi := 144) (kl := kl_144) rfl mo_144.two ko_144
  | 1, _ => m_Pk (mi := 145) (kl := kl_145) rfl mo_145.two ko_145
  | 2, _ => m_Pk (mi := 146) (kl := kl_146) rfl mo_146.two ko_146
  | 3, _ => m_Pk (mi := 147) (kl := kl_147) rfl mo_147.two ko_147
  | 4, _ => m_Pk (mi := 148) (kl := kl_148) rfl mo_148.two ko_148
  | 5, _ => m_Pk (mi := 149) (kl := kl_149) rfl mo_149.two ko_149
  | 6, _ => m_Pk (mi := 150) (kl := kl_150) rfl mo_150.two ko_150
  | 7, _ => m_Pk (mi := 151) (kl := kl_151) rfl mo_151.two ko_151
  | 8, _ => m_Pk (mi := 152) (kl := kl_152) rfl mo_152.two ko_152
  | 9, _ => m_Pk (mi := 153) (kl := kl_153) rfl mo_153.two ko_153
  | 10, _ => m_Pk (mi := 154) (kl := kl_154) rfl mo_154.two ko_154
  | 11, _ => m_Pk (mi := 155) (kl := kl_155) rfl mo_155.two ko_155
  | 12, _ => m_Pk (mi := 156) (kl := kl_156) rfl mo_156.two ko_156
  | 13, _ => m_Pk (mi := 157) (kl := kl_157) rfl mo_157.two ko_157
  | 14, _ => m_Pk (mi := 158) (kl := kl_158) rfl mo_158.two ko_158
  | 15, _ => m_Pk (mi := 159) (kl := kl_159) rfl mo_159.two ko_159
  | n + 16, h => absurd h (by omega)
theorem m_C10 : ∀ r, r < 16 → m_P (160 + r) := fun r h => match r, h with
  | 0, _ => m_Pk (mi := 160) (kl := kl_160) rfl mo_160.two ko_160
  | 1, _ => m_Pk (mi := 161) (kl := kl_161) rfl mo_161.two ko_161
  | 2, _ => m_Pk (mi := 162) (kl := kl_162) rfl mo_162.two ko_162
  | 3, _ => m_Pk (mi := 163) (kl := kl_163) rfl mo_163.two ko_163
  | 4, _ => m_Pk (mi := 164) (kl := kl_164) rfl mo_164.two ko_164
  | 5, _ => m_Pk (mi := 165) (kl := kl_165) rfl mo_165.two ko_165
  | 6, _ => m_Pk (mi := 166) (kl := kl_166) rfl mo_166.two ko_166
  | 7, _ => m_Pk (mi := 167) (kl := kl_167) rfl mo_167.two ko_167
  | 8, _ => m_Pk (mi := 168) (kl := kl_168) rfl mo_168.two ko_168
  | 9, _ => m_Pk (mi := 169) (kl := kl_169) rfl mo_169.two ko_169
  | 10, _ => m_Pk (mi := 170) (kl := kl_170) rfl mo_170.two ko_170
  | 11, _ => m_Pk (mi := 171) (kl := kl_171) rfl mo_171.two ko_171
  | 12, _ => m_Pk (mi := 172) (kl := kl_172) rfl mo_172.two ko_172
  | 13, _ => m_Pk (mi := 173) (kl := kl_173) rfl mo_173.two ko_173
  | 14, _ => m_Pk (mi := 174) (kl := kl_174) rfl mo_174.two ko_174
  | 15, _ => m_Pk (mi := 175) (kl := kl_175) rfl mo_175.two ko_175
  | n + 16, h => absurd h (by omega)
theorem m_C11 : ∀ r, r < 16 → m_P (176 + r) := fun r h => match r, h with
  | 0, _ => m_Pk (mi := 176) (kl := kl_176) rfl mo_176.two ko_176
  | 1, _ => m_Pk (mi := 177) (kl := kl_177) rfl mo_177.two ko_177
  | 2, _ => m_Pk (mi := 178) (kl := kl_178) rfl mo_178.two ko_178
  | 3, _ => m_Pk (mi := 179) (kl := kl_179) rfl mo_179.two ko_179
  | 4, _ => m_Pk (mi := 180) (kl := kl_180) rfl mo_180.two ko_180
  | 5, _ => m_Pk (mi := 181) (kl := kl_181) rfl mo_181.two ko_181
  | 6, _ => m_Pk (mi := 182) (kl := kl_182) rfl mo_182.two ko_182
  | 7, _ => m_Pk (mi := 183) (kl := kl_183) rfl mo_183.two ko_183
  | 8, _ => m_Pk (mi := 184) (kl := kl_184) rfl mo_184.two ko_184
  | 9, _ => m_Pk (mi := 185) (kl := kl_185) rfl mo_185.two ko_185
  | 10, _ => m_Pk (mi := 186) (kl := kl_186) rfl mo_186.two ko_186
  | 11, _ => m_Pk (mi := 187) (kl := kl_187) rfl mo_187.two ko_187
  | 12, _ => m_Pk (mi := 188) (kl := kl_188) rfl mo_188.two ko_188
  | 13, _ => m_Pk (mi := 189) (kl := kl_189) rfl mo_189.two ko_189
  | 14, _ => m_Pk (mi := 190) (kl := kl_190) rfl mo_190.two ko_190
  | 15, _ => m_Pk (mi := 191) (kl := kl_191) rfl mo_191.two ko_191
  | n + 16, h => absurd h (by omega)
theorem m_C12 : ∀ r, r < 16 → m_P (192 + r) := fun r h => match r, h with
  | 0, _ => m_Pk (mi := 192) (kl := kl_192) rfl mo_192.two ko_192
  | 1, _ => m_Pk (mi := 193) (kl := kl_193) rfl mo_193.two ko_193
  | 2, _ => m_Pk (mi := 194) (kl := kl_194) rfl mo_194.two ko_194
  | 3, _ => m_Pk (mi := 195) (kl := kl_195) rfl mo_195.two ko_195
  | 4, _ => m_Pk (mi := 196) (kl := kl_196) rfl mo_196.two ko_196
  | 5, _ => m_Pk (mi := 197) (kl := kl_197) rfl mo_197.two ko_197
  | 6, _ => m_Pk (mi := 198) (kl := kl_198) rfl mo_198.two ko_198
  | 7, _ => m_Pk (mi := 199) (kl := kl_199) rfl mo_199.two ko_199
  | 8, _ => m_Pk (mi := 200) (kl := kl_200) rfl mo_200.two ko_200
  | 9, _ => m_Pk (mi := 201) (kl := kl_201) rfl mo_201.two ko_201
  | 10, _ => m_Pk (mi := 202) (kl := kl_202) rfl mo_202.two ko_202
  | 11, _ => m_Pk (mi := 203) (kl := kl_203) rfl mo_203.two ko_203
  | 12, _ => m_Pk (mi := 204) (kl := kl_204) rfl mo_204.two ko_204
  | 13, _ => m_Pk (mi := 205) (kl := kl_205) rfl mo_205.two ko_205
  | 14, _ => m_Pk (mi := 206) (kl := kl_206) rfl mo_206.two ko_206
  | 15, _ => m_Pk (mi := 207) (kl := kl_207) rfl mo_207.two ko_207
  | n + 16, h => absurd h (by omega)
theorem m_C13 : ∀ r, r < 16 → m_P (208 + r) := fun r h => match r, h with
  | 0, _ => m_Pk (mi := 208) (kl := kl_208) rfl mo_208.two ko_208
  | 1, _ => m_Pk (mi := 209) (kl := kl_209) rfl mo_209.two ko_209
  | 2, _ => m_Pk (mi := 210) (kl := kl_210) rfl mo_210.two ko_210
  | 3, _ => m_Pk (mi := 211) (kl := kl_211) rfl mo_211.two ko_211
  | 4, _ => m_Pk (mi := 212) (kl := kl_212) rfl mo_212.two ko_212
  | 5, _ => m_Pk (mi := 213) (kl := kl_213) rfl mo_213.two ko_213
  | 6, _ => m_Pk (mi := 214) (kl := kl_214) rfl mo_214.two ko_214
  | 7, _ => m_Pk (mi := 215) (kl := kl_215) rfl mo_215.two ko_215
  | 8, _ => m_Pk (mi := 216) (kl := kl_216) rfl mo_216.two ko_216
  | 9, _ => m_Pk (mi := 217) (kl := kl_217) rfl mo_217.two ko_217
  | 10, _ => m_Pk (mi := 218) (kl := kl_218) rfl mo_218.two ko_218
  | 11, _ => m_Pk (mi := 219) (kl := kl_219) rfl mo_219.two ko_219
  | 12, _ => m_Pk (mi := 220) (kl := kl_220) rfl mo_220.two ko_220
  | 13, _ => m_Pk (mi := 221) (kl := kl_221) rfl mo_221.two ko_221
  | 14, _ => m_Pk (mi := 222) (kl := kl_222) rfl mo_222.two ko_222
  | 15, _ => m_Pk (mi := 223) (kl := kl_223) rfl mo_223.two ko_223
  | n + 16, h => absurd h (by omega)
theorem m_C14 : ∀ r, r < 16 → m_P (224 + r) := fun r h => match r, h with
  | 0, _ => m_Pk (mi := 224) (kl := kl_224) rfl mo_224.two ko_224
  | 1, _ => m_Pk (mi := 225) (kl := kl_225) rfl mo_225.two ko_225
  | 2, _ => m_Pk (mi := 226) (kl := kl_226) rfl mo_226.two ko_226
  | 3, _ => m_Pk (mi := 227) (kl := kl_227) rfl mo_227.two ko_227
  | 4, _ => m_Pk (mi := 228) (kl := kl_228) rfl mo_228.two ko_228
  | 5, _ => m_Pk (mi := 229) (kl := kl_229) rfl mo_229.two ko_229
  | 6, _ => m_Pk (mi := 230) (kl := kl_230) rfl mo_230.two ko_230
  | 7, _ => m_Pk (mi := 231) (kl := kl_231) rfl mo_231.two ko_231
  | 8, _ => m_Pk (mi := 232) (kl := kl_232) rfl mo_232.two ko_232
  | 9, _ => m_Pk (mi := 233) (kl := kl_233) rfl mo_233.two ko_233
  | 10, _ => m_Pk (mi := 234) (kl := kl_234) rfl mo_234.two ko_234
  | 11, _ => m_Pk (mi := 235) (kl := kl_235) rfl mo_235.two ko_235
  | 12, _ => m_Pk (mi := 236) (kl := kl_236) rfl mo_236.two ko_236
  | 13, _ => m_Pk (mi := 237) (kl := kl_237) rfl mo_237.two ko_237
  | 14, _ => m_Pk (mi := 238) (kl := kl_238) rfl mo_238.two ko_238
  | 15, _ => m_Pk (mi := 239) (kl := kl_239) rfl mo_239.two ko_239
  | n + 16, h => absurd h (by omega)
theorem m_C15 : ∀ r, r < 16 → m_P (240 + r) := fun r h => match r, h with
  | 0, _ => m_Pk (mi := 240) (kl := kl_240) rfl mo_240.two ko_240
  | 1, _ => m_Pk (mi := 241) (kl := kl_241) rfl mo_241.two ko_241
  | 2, _ => m_Pk (mi := 242) (kl := kl_242) rfl mo_242.two ko_242
  | 3, _ => m_Pk (mi := 243) (kl := kl_243) rfl mo_243.two ko_243
  | 4, _ => m_Pk (mi := 244) (kl := kl_244) rfl mo_244.two ko_244
  | 5, _ => m_Pk (mi := 245) (kl := kl_245) rfl mo_245.two ko_245
  | 6, _ => m_Pk (mi := 246) (kl := kl_246) rfl mo_246.two ko_246
  | 7, _ => m_Pk (mi := 247) (kl := kl_247) rfl mo_247.two ko_247
  | 8, _ => m_Pk (mi := 248) (kl := kl_248) rfl mo_248.two ko_248
  | 9, _ => m_Pk (mi := 249) (kl := kl_249) rfl mo_249.two ko_249
  | 10, _ => m_Pk (mi := 250) (kl := kl_250) rfl mo_250.two ko_250
  | 11, _ => m_Pk (mi := 251) (kl := kl_251) rfl mo_251.two ko_251
  | 12, _ => m_Pk (mi := 252) (kl := kl_252) rfl mo_252.two ko_252
  | 13, _ => m_Pk (mi := 253) (kl := kl_253) rfl mo_253.two ko_253
  | 14, _ => m_Pk (mi := 254) (kl := kl_254) rfl mo_254.two ko_254
  | 15, _ => m_Pk (mi := 255) (kl := kl_255) rfl mo_255.two ko_255
  | n + 16, h => absurd h (by omega)
theorem m_C16 : ∀ r, r < 16 → m_P (256 + r) := fun r h => match r, h with
  | 0, _ => m_Pk (mi := 256) (kl := kl_256) rfl mo_256.two ko_256
  | 1, _ => m_Pk (mi := 257) (kl := kl_257) rfl mo_257.two ko_257
  | 2, _ => m_Pk (mi := 258) (kl := kl_258) rfl mo_258.two ko_258
  | 3, _ => m_Pk (mi := 259) (kl := kl_259) rfl mo_259.two ko_259
  | 4, _ => m_Pk (mi := 260) (kl := kl_260) rfl mo_260.two ko_260
  | 5, _ => m_Pk (mi := 261) (kl := kl_261) rfl mo_261.two ko_261
  | 6, _ => m_Pk (mi := 262) (kl := kl_262) rfl mo_262.two ko_262
  | 7, _ => m_Pk (mi := 263) (kl := kl_263) rfl mo_263.two ko_263
  | 8, _ => m_Pk (mi := 264) (kl := kl_264) rfl mo_264.two ko_264
  | 9, _ => m_Pk (mi := 265) (kl := kl_265) rfl mo_265.two ko_265
  | 10, _ => m_Pk (mi := 266) (kl := kl_266) rfl mo_266.two ko_266
  | 11, _ => m_Pk (mi := 267) (kl := kl_267) rfl mo_267.two ko_267
  | 12, _ => m_Pk (mi := 268) (kl := kl_268) rfl mo_268.two ko_268
  | 13, _ => m_Pk (mi := 269) (kl := kl_269) rfl mo_269.two ko_269
  | 14, _ => m_Pk (mi := 270) (kl := kl_270) rfl mo_270.two ko_270
  | 15, _ => m_Pk (mi := 271) (kl := kl_271) rfl mo_271.two ko_271
  | n + 16, h => absurd h (by omega)
theorem m_C17 : ∀ r, r < 16 → m_P (272 + r) := fun r h => match r, h with
  | 0, _ => m_Pk (mi := 272) (kl := kl_272) rfl mo_272.two ko_272
  | 1, _ => m_Pk (mi := 273) (kl := kl_273) rfl mo_273.two ko_273
  | 2, _ => m_Pk (mi := 274) (kl := kl_274) rfl mo_274.two ko_274
  | 3, _ => m_Pk (mi := 275) (kl := kl_275) rfl mo_275.two ko_275
  | 4, _ => m_Pk (mi := 276) (kl := kl_276) rfl mo_276.two ko_276
  | 5, _ => m_Pk (mi := 277) (kl := kl_277) rfl mo_277.two ko_277
  | 6, _ => m_Pk (mi := 278) (kl := kl_278) rfl mo_278.two ko_278
  | 7, _ => m_Pk (mi := 279) (kl := kl_279) rfl mo_279.two ko_279
  | 8, _ => m_Pk (mi := 280) (kl := kl_280) rfl mo_280.two ko_280
  | 9, _ => m_Pk (mi := 281) (kl := kl_281) rfl mo_281.two ko_281
  | 10, _ => m_Pk (mi := 282) (kl := kl_282) rfl mo_282.two ko_282
  | 11, _ => m_Pk (mi := 283) (kl := kl_283) rfl mo_283.two ko_283
  | 12, _ => m_Pk (mi := 284) (kl := kl_284) rfl mo_284.two ko_284
  | 13, _ => m_Pk (mi := 285) (kl := kl_285) rfl mo_285.two ko_285
  | 14, _ => m_Pk (mi := 286) (kl := kl_286) rfl mo_286.two ko_286
  | 15, _ => m_Pk (mi := 287) (kl := kl_287) rfl mo_287.two ko_287
  | n + 16, h => absurd h (by omega)
theorem m_C18 : ∀ r, r < 16 → m_P (288 + r) := fun r h => match r, h with
  | 0, _ => m_Pk (mi := 288) (kl := kl_288) rfl mo_288.two ko_288
  | 1, _ => m_Pk (mi := 289) (kl := kl_289) rfl mo_289.two ko_289
  | 2, _ => m_Pk (mi := 290) (kl := kl_290) rfl mo_290.two ko_290
  | 3, _ => m_Pk (mi := 291) (kl := kl_291) rfl mo_291.two ko_291
  | 4, _ => m_Pk (mi := 292) (kl := kl_292) rfl mo_292.two ko_292
  | 5, _ => m_Pk (mi := 293) (kl := kl_293) rfl mo_293.two ko_293
  | 6, _ => m_Pk (mi := 294) (kl := kl_294) rfl mo_294.two ko_294
  | 7, _ => m_Pk (mi := 295) (kl := kl_295) rfl mo_295.two ko_295
  | 8, _ => m_Pk (mi := 296) (kl := kl_296) rfl mo_296.two ko_296
  | 9, _ => m_Pk (mi := 297) (kl := kl_297) rfl mo_297.two ko_297
  | 10, _ => m_Pk (mi := 298) (kl := kl_298) rfl mo_298.two ko_298
  | 11, _ => m_Pk (mi := 299) (kl := kl_299) rfl mo_299.two ko_299
  | 12, _ => m_Pk (mi := 300) (kl := kl_300) rfl mo_300.two ko_300
  | 13, _ => m_Pk (mi := 301) (kl := kl_301) rfl mo2_301 ko_301
  | 14, _ => m_Pk (mi := 302) (kl := kl_302) rfl mo2_302 ko_302
  | 15, _ => m_Pk (mi := 303) (kl := kl_303) rfl mo_303.two ko_303
  | n + 16, h => absurd h (by omega)
theorem m_C19 : ∀ r, r < 8 → m_P (304 + r) := fun r h => match r, h with
  | 0, _ => m_Pk (mi := 304) (kl := kl_304) rfl mo_304.two ko_304
  | 1, _ => m_Pk (mi := 305) (kl := kl_305) rfl mo_305.two ko_305
  | 2, _ => m_P0 rfl
  | 3, _ => m_Pk (mi := 307) (kl := kl_307) rfl mo_307.two ko_307
  | 4, _ => m_Pk (mi := 308) (kl := kl_308) rfl mo_308.two ko_308
  | 5, _ => m_Pk (mi := 309) (kl := kl_309) rfl mo_309.two ko_309
  | 6, _ => m_Pk (mi := 310) (kl := kl_310) rfl mo_310.two ko_310
  | 7, _ => m_Pk (mi := 311) (kl := kl_311) rfl mo_311.two ko_311
  | n + 8, h => absurd h (by omega)
theorem kls_len : kls.length = 312 := by decide +kernel
theorem t_all : t_ok2 u_mt u_cd := by
  intro mi h
  by_cases w : mi < 312
  · have hj : ∃ j r, r < 16 ∧ mi = 16 * j + r := ⟨mi / 16, mi % 16, by omega, by omega⟩
    obtain ⟨j, r, hr, rfl⟩ := hj
    have hj : j < 20 := by omega
    have hc : j = 0 ∨ j = 1 ∨ j = 2 ∨ j = 3 ∨ j = 4 ∨ j = 5 ∨ j = 6 ∨ j = 7 ∨ j = 8 ∨ j = 9 ∨ j = 10 ∨ j = 11 ∨ j = 12 ∨ j = 13 ∨ j = 14 ∨ j = 15 ∨ j = 16 ∨ j = 17 ∨ j = 18 ∨ j = 19 := by omega
    rcases hc with rfl | rfl | rfl | rfl | rfl | rfl | rfl | rfl | rfl | rfl | rfl | rfl | rfl | rfl | rfl | rfl | rfl | rfl | rfl | rfl
    · exact m_C0 r (by omega) h
    · exact m_C1 r (by omega) h
    · exact m_C2 r (by omega) h
    · exact m_C3 r (by omega) h
    · exact m_C4 r (by omega) h
    · exact m_C5 r (by omega) h
    · exact m_C6 r (by omega) h
    · exact m_C7 r (by omega) h
    · exact m_C8 r (by omega) h
    · exact m_C9 r (by omega) h
    · exact m_C10 r (by omega) h
    · exact m_C11 r (by omega) h
    · exact m_C12 r (by omega) h
    · exact m_C13 r (by omega) h
    · exact m_C14 r (by omega) h
    · exact m_C15 r (by omega) h
    · exact m_C16 r (by omega) h
    · exact m_C17 r (by omega) h
    · exact m_C18 r (by omega) h
    · exact m_C19 r (by omega) h
  · exact m_P0 (by rw [List.getD_eq_getElem?_getD, List.getElem?_eq_none (by rw [kls_len]; omega)]; rfl) h
