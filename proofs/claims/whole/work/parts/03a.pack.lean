/-! ===== classes, kinds, methods ===== -/
def LF : Nat := 14000
def qlt {α : Type} (e : α) (f : α → Option (Int × qH)) : Option (Int × qH) := f e
theorem qCw_0 : ∀ w ∈ u_ws RX0 TX0 8, w ∈ lw_tbl ∧ qgw w = true := by
  have h : (u_ws RX0 TX0 8).all (fun w => decide (w ∈ lw_tbl) && qgw w) = true := by decide +kernel
  intro w hw
  have h1 := List.all_eq_true.mp h w hw
  rw [Bool.and_eq_true] at h1
  exact ⟨of_decide_eq_true h1.1, h1.2⟩
theorem qC_0 : qCl 0 RX0 TX0 8 tyX0 := ⟨rfl, by decide, qCw_0, nmX0, tyX0_ok⟩
theorem qCw_1 : ∀ w ∈ u_ws RX1 TX1 20, w ∈ lw_tbl ∧ qgw w = true := by
  have h : (u_ws RX1 TX1 20).all (fun w => decide (w ∈ lw_tbl) && qgw w) = true := by decide +kernel
  intro w hw
  have h1 := List.all_eq_true.mp h w hw
  rw [Bool.and_eq_true] at h1
  exact ⟨of_decide_eq_true h1.1, h1.2⟩
theorem qC_1 : qCl 1 RX1 TX1 20 tyX1 := ⟨rfl, by decide, qCw_1, nmX1, tyX1_ok⟩
theorem qCw_2 : ∀ w ∈ u_ws RX2 TX2 7, w ∈ lw_tbl ∧ qgw w = true := by
  have h : (u_ws RX2 TX2 7).all (fun w => decide (w ∈ lw_tbl) && qgw w) = true := by decide +kernel
  intro w hw
  have h1 := List.all_eq_true.mp h w hw
  rw [Bool.and_eq_true] at h1
  exact ⟨of_decide_eq_true h1.1, h1.2⟩
theorem qC_2 : qCl 2 RX2 TX2 7 tyX2 := ⟨rfl, by decide, qCw_2, nmX2, tyX2_ok⟩
theorem qCw_3 : ∀ w ∈ u_ws RX3 TX3 3, w ∈ lw_tbl ∧ qgw w = true := by
  have h : (u_ws RX3 TX3 3).all (fun w => decide (w ∈ lw_tbl) && qgw w) = true := by decide +kernel
  intro w hw
  have h1 := List.all_eq_true.mp h w hw
  rw [Bool.and_eq_true] at h1
  exact ⟨of_decide_eq_true h1.1, h1.2⟩
theorem qC_3 : qCl 3 RX3 TX3 3 tyX3 := ⟨rfl, by decide, qCw_3, nmX3, tyX3_ok⟩
theorem qCw_4 : ∀ w ∈ u_ws RX4 TX4 10, w ∈ lw_tbl ∧ qgw w = true := by
  have h : (u_ws RX4 TX4 10).all (fun w => decide (w ∈ lw_tbl) && qgw w) = true := by decide +kernel
  intro w hw
  have h1 := List.all_eq_true.mp h w hw
  rw [Bool.and_eq_true] at h1
  exact ⟨of_decide_eq_true h1.1, h1.2⟩
theorem qC_4 : qCl 4 RX4 TX4 10 tyX4 := ⟨rfl, by decide, qCw_4, nmX4, tyX4_ok⟩
theorem qCw_5 : ∀ w ∈ u_ws RX5 TX5 6, w ∈ lw_tbl ∧ qgw w = true := by
  have h : (u_ws RX5 TX5 6).all (fun w => decide (w ∈ lw_tbl) && qgw w) = true := by decide +kernel
  intro w hw
  have h1 := List.all_eq_true.mp h w hw
  rw [Bool.and_eq_true] at h1
  exact ⟨of_decide_eq_true h1.1, h1.2⟩
theorem qC_5 : qCl 5 RX5 TX5 6 tyX5 := ⟨rfl, by decide, qCw_5, nmX5, tyX5_ok⟩
theorem qCw_6 : ∀ w ∈ u_ws RX6 TX6 3, w ∈ lw_tbl ∧ qgw w = true := by
  have h : (u_ws RX6 TX6 3).all (fun w => decide (w ∈ lw_tbl) && qgw w) = true := by decide +kernel
  intro w hw
  have h1 := List.all_eq_true.mp h w hw
  rw [Bool.and_eq_true] at h1
  exact ⟨of_decide_eq_true h1.1, h1.2⟩
theorem qC_6 : qCl 6 RX6 TX6 3 tyX6 := ⟨rfl, by decide, qCw_6, nmX6, tyX6_ok⟩
theorem qCw_7 : ∀ w ∈ u_ws RX7 TX7 3, w ∈ lw_tbl ∧ qgw w = true := by
  have h : (u_ws RX7 TX7 3).all (fun w => decide (w ∈ lw_tbl) && qgw w) = true := by decide +kernel
  intro w hw
  have h1 := List.all_eq_true.mp h w hw
  rw [Bool.and_eq_true] at h1
  exact ⟨of_decide_eq_true h1.1, h1.2⟩
theorem qC_7 : qCl 7 RX7 TX7 3 tyX7 := ⟨rfl, by decide, qCw_7, nmX7, tyX7_ok⟩
theorem qCw_8 : ∀ w ∈ u_ws RX8 TX8 4, w ∈ lw_tbl ∧ qgw w = true := by
  have h : (u_ws RX8 TX8 4).all (fun w => decide (w ∈ lw_tbl) && qgw w) = true := by decide +kernel
  intro w hw
  have h1 := List.all_eq_true.mp h w hw
  rw [Bool.and_eq_true] at h1
  exact ⟨of_decide_eq_true h1.1, h1.2⟩
theorem qC_8 : qCl 8 RX8 TX8 4 tyX8 := ⟨rfl, by decide, qCw_8, nmX8, tyX8_ok⟩
theorem qCw_9 : ∀ w ∈ u_ws RX9 TX9 16, w ∈ lw_tbl ∧ qgw w = true := by
  have h : (u_ws RX9 TX9 16).all (fun w => decide (w ∈ lw_tbl) && qgw w) = true := by decide +kernel
  intro w hw
  have h1 := List.all_eq_true.mp h w hw
  rw [Bool.and_eq_true] at h1
  exact ⟨of_decide_eq_true h1.1, h1.2⟩
theorem qC_9 : qCl 9 RX9 TX9 16 tyX9 := ⟨rfl, by decide, qCw_9, nmX9, tyX9_ok⟩
theorem qCw_10 : ∀ w ∈ u_ws RX10 TX10 39, w ∈ lw_tbl ∧ qgw w = true := by
  have h : (u_ws RX10 TX10 39).all (fun w => decide (w ∈ lw_tbl) && qgw w) = true := by decide +kernel
  intro w hw
  have h1 := List.all_eq_true.mp h w hw
  rw [Bool.and_eq_true] at h1
  exact ⟨of_decide_eq_true h1.1, h1.2⟩
theorem qC_10 : qCl 10 RX10 TX10 39 tyX10 := ⟨rfl, by decide, qCw_10, nmX10, tyX10_ok⟩
theorem qk_0 : qK 0 = (9, 16) := by decide +kernel
theorem qk_1 : qK 1 = (21, 900) := by decide +kernel
theorem qk_2 : qK 2 = (4, 10) := by decide +kernel
theorem qk_3 : qK 3 = (21, 0) := by decide +kernel
theorem qk_4 : qK 4 = (2, 7) := by decide +kernel
theorem qk_5 : qK 5 = (1, 20) := by decide +kernel
theorem qk_6 : qK 6 = (20, 36) := by decide +kernel
theorem qk_7 : qK 7 = (20, 216) := by decide +kernel
theorem qk_8 : qK 8 = (20, 6) := by decide +kernel
theorem qk_9 : qK 9 = (20, 6) := by decide +kernel
theorem qk_10 : qK 10 = (20, 6) := by decide +kernel
theorem qk_11 : qK 11 = (20, 6) := by decide +kernel
theorem qk_12 : qK 12 = (20, 900) := by decide +kernel
theorem qk_13 : qK 13 = (0, 8) := by decide +kernel
theorem qk_14 : qK 14 = (20, 7) := by decide +kernel
theorem qk_15 : qK 15 = (20, 64) := by decide +kernel
theorem qk_16 : qK 16 = (1, 20) := by decide +kernel
theorem qk_17 : qK 17 = (20, 36) := by decide +kernel
theorem qk_18 : qK 18 = (20, 216) := by decide +kernel
theorem qk_19 : qK 19 = (20, 6) := by decide +kernel
theorem qk_20 : qK 20 = (20, 6) := by decide +kernel
theorem qk_21 : qK 21 = (20, 6) := by decide +kernel
theorem qk_22 : qK 22 = (20, 6) := by decide +kernel
theorem qk_23 : qK 23 = (20, 900) := by decide +kernel
theorem qk_24 : qK 24 = (7, 3) := by decide +kernel
theorem qk_25 : qK 25 = (25, 8) := by decide +kernel
theorem qk_26 : qK 26 = (0, 8) := by decide +kernel
theorem qk_27 : qK 27 = (0, 8) := by decide +kernel
theorem qk_28 : qK 28 = (0, 8) := by decide +kernel
theorem qk_29 : qK 29 = (0, 8) := by decide +kernel
theorem qk_30 : qK 30 = (0, 8) := by decide +kernel
theorem qk_31 : qK 31 = (0, 8) := by decide +kernel
theorem qk_32 : qK 32 = (0, 8) := by decide +kernel
theorem qk_33 : qK 33 = (0, 8) := by decide +kernel
theorem qk_34 : qK 34 = (7, 3) := by decide +kernel
theorem qk_35 : qK 35 = (25, 8) := by decide +kernel
theorem qk_36 : qK 36 = (0, 8) := by decide +kernel
theorem qk_37 : qK 37 = (0, 8) := by decide +kernel
theorem qk_38 : qK 38 = (0, 8) := by decide +kernel
theorem qk_39 : qK 39 = (0, 8) := by decide +kernel
theorem qk_40 : qK 40 = (0, 8) := by decide +kernel
theorem qk_41 : qK 41 = (0, 8) := by decide +kernel
theorem qk_42 : qK 42 = (0, 8) := by decide +kernel
theorem qk_43 : qK 43 = (0, 8) := by decide +kernel
theorem qk_44 : qK 44 = (3, 3) := by decide +kernel
theorem qk_45 : qK 45 = (26, 11) := by decide +kernel
theorem qk_46 : qK 46 = (7, 3) := by decide +kernel
theorem qk_47 : qK 47 = (25, 8) := by decide +kernel
theorem qk_48 : qK 48 = (0, 8) := by decide +kernel
theorem qk_49 : qK 49 = (0, 8) := by decide +kernel
theorem qk_50 : qK 50 = (0, 8) := by decide +kernel
theorem qk_51 : qK 51 = (0, 8) := by decide +kernel
theorem qk_52 : qK 52 = (0, 8) := by decide +kernel
theorem qk_53 : qK 53 = (0, 8) := by decide +kernel
theorem qk_54 : qK 54 = (0, 8) := by decide +kernel
theorem qk_55 : qK 55 = (0, 8) := by decide +kernel
theorem qk_56 : qK 56 = (7, 3) := by decide +kernel
theorem qk_57 : qK 57 = (25, 8) := by decide +kernel
theorem qk_58 : qK 58 = (0, 8) := by decide +kernel
theorem qk_59 : qK 59 = (0, 8) := by decide +kernel
theorem qk_60 : qK 60 = (0, 8) := by decide +kernel
theorem qk_61 : qK 61 = (0, 8) := by decide +kernel
theorem qk_62 : qK 62 = (0, 8) := by decide +kernel
theorem qk_63 : qK 63 = (0, 8) := by decide +kernel
theorem qk_64 : qK 64 = (0, 8) := by decide +kernel
theorem qk_65 : qK 65 = (0, 8) := by decide +kernel
theorem qk_66 : qK 66 = (7, 3) := by decide +kernel
theorem qk_67 : qK 67 = (25, 8) := by decide +kernel
theorem qk_68 : qK 68 = (0, 8) := by decide +kernel
theorem qk_69 : qK 69 = (0, 8) := by decide +kernel
theorem qk_70 : qK 70 = (0, 8) := by decide +kernel
theorem qk_71 : qK 71 = (0, 8) := by decide +kernel
theorem qk_72 : qK 72 = (0, 8) := by decide +kernel
theorem qk_73 : qK 73 = (0, 8) := by decide +kernel
theorem qk_74 : qK 74 = (0, 8) := by decide +kernel
theorem qk_75 : qK 75 = (0, 8) := by decide +kernel
theorem qk_76 : qK 76 = (7, 3) := by decide +kernel
theorem qk_77 : qK 77 = (25, 8) := by decide +kernel
theorem qk_78 : qK 78 = (0, 8) := by decide +kernel
theorem qk_79 : qK 79 = (0, 8) := by decide +kernel
theorem qk_80 : qK 80 = (0, 8) := by decide +kernel
theorem qk_81 : qK 81 = (0, 8) := by decide +kernel
theorem qk_82 : qK 82 = (0, 8) := by decide +kernel
theorem qk_83 : qK 83 = (0, 8) := by decide +kernel
theorem qk_84 : qK 84 = (0, 8) := by decide +kernel
theorem qk_85 : qK 85 = (0, 8) := by decide +kernel
theorem qk_86 : qK 86 = (7, 3) := by decide +kernel
theorem qk_87 : qK 87 = (25, 8) := by decide +kernel
theorem qk_88 : qK 88 = (0, 8) := by decide +kernel
theorem qk_89 : qK 89 = (0, 8) := by decide +kernel
theorem qk_90 : qK 90 = (0, 8) := by decide +kernel
theorem qk_91 : qK 91 = (0, 8) := by decide +kernel
theorem qk_92 : qK 92 = (0, 8) := by decide +kernel
theorem qk_93 : qK 93 = (0, 8) := by decide +kernel
theorem qk_94 : qK 94 = (0, 8) := by decide +kernel
theorem qk_95 : qK 95 = (0, 8) := by decide +kernel
theorem qk_96 : qK 96 = (7, 3) := by decide +kernel
theorem qk_97 : qK 97 = (25, 8) := by decide +kernel
theorem qk_98 : qK 98 = (0, 8) := by decide +kernel
theorem qk_99 : qK 99 = (0, 8) := by decide +kernel
theorem qk_100 : qK 100 = (0, 8) := by decide +kernel
theorem qk_101 : qK 101 = (0, 8) := by decide +kernel
theorem qk_102 : qK 102 = (0, 8) := by decide +kernel
theorem qk_103 : qK 103 = (0, 8) := by decide +kernel
theorem qk_104 : qK 104 = (0, 8) := by decide +kernel
theorem qk_105 : qK 105 = (0, 8) := by decide +kernel
theorem qk_106 : qK 106 = (7, 3) := by decide +kernel
theorem qk_107 : qK 107 = (25, 8) := by decide +kernel
theorem qk_108 : qK 108 = (0, 8) := by decide +kernel
theorem qk_109 : qK 109 = (0, 8) := by decide +kernel
theorem qk_110 : qK 110 = (0, 8) := by decide +kernel
theorem qk_111 : qK 111 = (0, 8) := by decide +kernel
theorem qk_112 : qK 112 = (0, 8) := by decide +kernel
theorem qk_113 : qK 113 = (0, 8) := by decide +kernel
theorem qk_114 : qK 114 = (0, 8) := by decide +kernel
theorem qk_115 : qK 115 = (0, 8) := by decide +kernel
theorem qk_116 : qK 116 = (7, 3) := by decide +kernel
theorem qk_117 : qK 117 = (25, 8) := by decide +kernel
theorem qk_118 : qK 118 = (0, 8) := by decide +kernel
theorem qk_119 : qK 119 = (0, 8) := by decide +kernel
theorem qk_120 : qK 120 = (0, 8) := by decide +kernel
theorem qk_121 : qK 121 = (0, 8) := by decide +kernel
theorem qk_122 : qK 122 = (0, 8) := by decide +kernel
theorem qk_123 : qK 123 = (0, 8) := by decide +kernel
theorem qk_124 : qK 124 = (0, 8) := by decide +kernel
theorem qk_125 : qK 125 = (0, 8) := by decide +kernel
theorem qk_126 : qK 126 = (7, 3) := by decide +kernel
theorem qk_127 : qK 127 = (25, 8) := by decide +kernel
theorem qk_128 : qK 128 = (0, 8) := by decide +kernel
theorem qk_129 : qK 129 = (0, 8) := by decide +kernel
theorem qk_130 : qK 130 = (0, 8) := by decide +kernel
theorem qk_131 : qK 131 = (0, 8) := by decide +kernel
theorem qk_132 : qK 132 = (0, 8) := by decide +kernel
theorem qk_133 : qK 133 = (0, 8) := by decide +kernel
theorem qk_134 : qK 134 = (0, 8) := by decide +kernel
theorem qk_135 : qK 135 = (0, 8) := by decide +kernel
theorem qk_136 : qK 136 = (7, 3) := by decide +kernel
theorem qk_137 : qK 137 = (25, 8) := by decide +kernel
theorem qk_138 : qK 138 = (0, 8) := by decide +kernel
theorem qk_139 : qK 139 = (0, 8) := by decide +kernel
theorem qk_140 : qK 140 = (0, 8) := by decide +kernel
theorem qk_141 : qK 141 = (0, 8) := by decide +kernel
theorem qk_142 : qK 142 = (0, 8) := by decide +kernel
theorem qk_143 : qK 143 = (0, 8) := by decide +kernel
theorem qk_144 : qK 144 = (0, 8) := by decide +kernel
theorem qk_145 : qK 145 = (0, 8) := by decide +kernel
theorem qk_146 : qK 146 = (7, 3) := by decide +kernel
theorem qk_147 : qK 147 = (25, 8) := by decide +kernel
theorem qk_148 : qK 148 = (0, 8) := by decide +kernel
theorem qk_149 : qK 149 = (0, 8) := by decide +kernel
theorem qk_150 : qK 150 = (0, 8) := by decide +kernel
theorem qk_151 : qK 151 = (0, 8) := by decide +kernel
theorem qk_152 : qK 152 = (0, 8) := by decide +kernel
theorem qk_153 : qK 153 = (0, 8) := by decide +kernel
theorem qk_154 : qK 154 = (0, 8) := by decide +kernel
theorem qk_155 : qK 155 = (0, 8) := by decide +kernel
theorem qk_156 : qK 156 = (0, 8) := by decide +kernel
theorem qk_157 : qK 157 = (5, 6) := by decide +kernel
theorem qk_158 : qK 158 = (20, 6) := by decide +kernel
theorem qk_159 : qK 159 = (20, 6) := by decide +kernel
theorem qk_160 : qK 160 = (8, 4) := by decide +kernel
theorem qk_161 : qK 161 = (0, 8) := by decide +kernel
theorem qk_162 : qK 162 = (20, 4) := by decide +kernel
theorem qk_163 : qK 163 = (24, 8) := by decide +kernel
theorem qk_164 : qK 164 = (27, 4) := by decide +kernel
theorem qk_165 : qK 165 = (28, 2) := by decide +kernel
theorem qk_166 : qK 166 = (26, 2) := by decide +kernel
theorem qk_167 : qK 167 = (23, 2) := by decide +kernel
theorem qk_168 : qK 168 = (6, 3) := by decide +kernel
theorem qk_169 : qK 169 = (24, 40) := by decide +kernel
theorem qk_170 : qK 170 = (6, 3) := by decide +kernel
theorem qk_171 : qK 171 = (24, 40) := by decide +kernel
theorem qk_172 : qK 172 = (6, 3) := by decide +kernel
theorem qk_173 : qK 173 = (24, 40) := by decide +kernel
theorem qk_174 : qK 174 = (6, 3) := by decide +kernel
theorem qk_175 : qK 175 = (24, 40) := by decide +kernel
theorem qk_176 : qK 176 = (1, 20) := by decide +kernel
theorem qk_177 : qK 177 = (20, 36) := by decide +kernel
theorem qk_178 : qK 178 = (20, 216) := by decide +kernel
theorem qk_179 : qK 179 = (20, 6) := by decide +kernel
theorem qk_180 : qK 180 = (20, 6) := by decide +kernel
theorem qk_181 : qK 181 = (20, 6) := by decide +kernel
theorem qk_182 : qK 182 = (20, 6) := by decide +kernel
theorem qk_183 : qK 183 = (20, 900) := by decide +kernel
theorem qk_184 : qK 184 = (7, 3) := by decide +kernel
theorem qk_185 : qK 185 = (25, 8) := by decide +kernel
theorem qk_186 : qK 186 = (0, 8) := by decide +kernel
theorem qk_187 : qK 187 = (0, 8) := by decide +kernel
theorem qk_188 : qK 188 = (0, 8) := by decide +kernel
theorem qk_189 : qK 189 = (0, 8) := by decide +kernel
theorem qk_190 : qK 190 = (0, 8) := by decide +kernel
theorem qk_191 : qK 191 = (0, 8) := by decide +kernel
theorem qk_192 : qK 192 = (0, 8) := by decide +kernel
theorem qk_193 : qK 193 = (0, 8) := by decide +kernel
theorem qk_194 : qK 194 = (1, 20) := by decide +kernel
theorem qk_195 : qK 195 = (20, 36) := by decide +kernel
theorem qk_196 : qK 196 = (20, 216) := by decide +kernel
theorem qk_197 : qK 197 = (20, 6) := by decide +kernel
theorem qk_198 : qK 198 = (20, 6) := by decide +kernel
theorem qk_199 : qK 199 = (20, 6) := by decide +kernel
theorem qk_200 : qK 200 = (20, 6) := by decide +kernel
theorem qk_201 : qK 201 = (20, 900) := by decide +kernel
theorem qk_202 : qK 202 = (7, 3) := by decide +kernel
theorem qk_203 : qK 203 = (25, 8) := by decide +kernel
theorem qk_204 : qK 204 = (0, 8) := by decide +kernel
theorem qk_205 : qK 205 = (0, 8) := by decide +kernel
theorem qk_206 : qK 206 = (0, 8) := by decide +kernel
theorem qk_207 : qK 207 = (0, 8) := by decide +kernel
theorem qk_208 : qK 208 = (0, 8) := by decide +kernel
theorem qk_209 : qK 209 = (0, 8) := by decide +kernel
theorem qk_210 : qK 210 = (0, 8) := by decide +kernel
theorem qk_211 : qK 211 = (0, 8) := by decide +kernel
theorem qk_212 : qK 212 = (10, 39) := by decide +kernel
theorem qk_213 : qK 213 = (20, 5736) := by decide +kernel
theorem qk_214 : qK 214 = (23, 2) := by decide +kernel
theorem qk_215 : qK 215 = (20, 900) := by decide +kernel
theorem qk_216 : qK 216 = (20, 1912) := by decide +kernel
theorem qk_217 : qK 217 = (20, 8) := by decide +kernel
theorem qk_218 : qK 218 = (20, 900) := by decide +kernel
theorem qk_219 : qK 219 = (20, 66) := by decide +kernel
theorem qk_220 : qK 220 = (20, 6) := by decide +kernel
theorem qk_221 : qK 221 = (20, 6) := by decide +kernel
theorem qk_222 : qK 222 = (20, 4) := by decide +kernel
theorem qk_223 : qK 223 = (20, 4) := by decide +kernel
theorem qk_224 : qK 224 = (24, 160) := by decide +kernel
theorem qk_225 : qK 225 = (21, 6480) := by decide +kernel
theorem qk_226 : qK 226 = (22, 12960) := by decide +kernel
theorem qf_1_0 {i : Nat} (h : qK i = (1, 20)) : qK (i + 1) = (20, 36) ∧ i + 1 < 225 := by
  have hl := qK_lt (i := i) (by rw [h]; decide)
  have := (by decide +kernel : ∀ i, i < 225 → qK i = (1, 20) → qK (i + 1) = (20, 36) ∧ i + 1 < 225) i hl h
  exact this
theorem qf_1_1 {i : Nat} (h : qK i = (1, 20)) : qK (i + 2) = (20, 216) ∧ i + 2 < 225 := by
  have hl := qK_lt (i := i) (by rw [h]; decide)
  have := (by decide +kernel : ∀ i, i < 225 → qK i = (1, 20) → qK (i + 2) = (20, 216) ∧ i + 2 < 225) i hl h
  exact this
theorem qf_1_2 {i : Nat} (h : qK i = (1, 20)) : qK (i + 3) = (20, 6) ∧ i + 3 < 225 := by
  have hl := qK_lt (i := i) (by rw [h]; decide)
  have := (by decide +kernel : ∀ i, i < 225 → qK i = (1, 20) → qK (i + 3) = (20, 6) ∧ i + 3 < 225) i hl h
  exact this
theorem qf_1_3 {i : Nat} (h : qK i = (1, 20)) : qK (i + 4) = (20, 6) ∧ i + 4 < 225 := by
  have hl := qK_lt (i := i) (by rw [h]; decide)
  have := (by decide +kernel : ∀ i, i < 225 → qK i = (1, 20) → qK (i + 4) = (20, 6) ∧ i + 4 < 225) i hl h
  exact this
theorem qf_1_4 {i : Nat} (h : qK i = (1, 20)) : qK (i + 5) = (20, 6) ∧ i + 5 < 225 := by
  have hl := qK_lt (i := i) (by rw [h]; decide)
  have := (by decide +kernel : ∀ i, i < 225 → qK i = (1, 20) → qK (i + 5) = (20, 6) ∧ i + 5 < 225) i hl h
  exact this
theorem qf_1_5 {i : Nat} (h : qK i = (1, 20)) : qK (i + 6) = (20, 6) ∧ i + 6 < 225 := by
  have hl := qK_lt (i := i) (by rw [h]; decide)
  have := (by decide +kernel : ∀ i, i < 225 → qK i = (1, 20) → qK (i + 6) = (20, 6) ∧ i + 6 < 225) i hl h
  exact this
theorem qf_1_6 {i : Nat} (h : qK i = (1, 20)) : qK (i + 7) = (20, 900) ∧ i + 7 < 225 := by
  have hl := qK_lt (i := i) (by rw [h]; decide)
  have := (by decide +kernel : ∀ i, i < 225 → qK i = (1, 20) → qK (i + 7) = (20, 900) ∧ i + 7 < 225) i hl h
  exact this
theorem qf_6_0 {i : Nat} (h : qK i = (6, 3)) : qK (i + 1) = (24, 40) ∧ i + 1 < 225 := by
  have hl := qK_lt (i := i) (by rw [h]; decide)
  have := (by decide +kernel : ∀ i, i < 225 → qK i = (6, 3) → qK (i + 1) = (24, 40) ∧ i + 1 < 225) i hl h
  exact this
theorem qf_7_0 {i : Nat} (h : qK i = (7, 3)) : qK (i + 1) = (25, 8) ∧ i + 1 < 225 := by
  have hl := qK_lt (i := i) (by rw [h]; decide)
  have := (by decide +kernel : ∀ i, i < 225 → qK i = (7, 3) → qK (i + 1) = (25, 8) ∧ i + 1 < 225) i hl h
  exact this
theorem qel_25 {i : Nat} {a : Int} (h : qK i = (25, 8)) (g1 : 0 ≤ a) (g2 : a < 8) : qK (i + 1 + a.toNat) = (0, 8) ∧ (qEl i a.toNat = i + 1 + a.toNat ∧ i + 1 + a.toNat < 225) := by
  have hl := qK_lt2 (i := i) (by rw [h]; decide)
  have := (by decide +kernel : ∀ i, i < 227 → qK i = (25, 8) → ∀ m, m < 8 → qK (i + 1 + m) = (0, 8) ∧ (qEl i m = i + 1 + m ∧ i + 1 + m < 225)) i hl h a.toNat (by omega)
  exact this
theorem qel_45 {a : Int} (g1 : 0 ≤ a) (g2 : a < 11) : qK (46 + 10 * a.toNat) = (7, 3) ∧ (qEl 45 a.toNat = 46 + 10 * a.toNat ∧ 46 + 10 * a.toNat < 225) :=
  (by decide +kernel : ∀ m, m < 11 → qK (46 + 10 * m) = (7, 3) ∧ (qEl 45 m = 46 + 10 * m ∧ 46 + 10 * m < 225)) a.toNat (by omega)
theorem qel_164 {a : Int} (g1 : 0 ≤ a) (g2 : a < 4) : qK (168 + 2 * a.toNat) = (6, 3) ∧ (qEl 164 a.toNat = 168 + 2 * a.toNat ∧ 168 + 2 * a.toNat < 225) :=
  (by decide +kernel : ∀ m, m < 4 → qK (168 + 2 * m) = (6, 3) ∧ (qEl 164 m = 168 + 2 * m ∧ 168 + 2 * m < 225)) a.toNat (by omega)
theorem qel_165 {a : Int} (g1 : 0 ≤ a) (g2 : a < 2) : qK (176 + 18 * a.toNat) = (1, 20) ∧ (qEl 165 a.toNat = 176 + 18 * a.toNat ∧ 176 + 18 * a.toNat < 225) :=
  (by decide +kernel : ∀ m, m < 2 → qK (176 + 18 * m) = (1, 20) ∧ (qEl 165 m = 176 + 18 * m ∧ 176 + 18 * m < 225)) a.toNat (by omega)
theorem qel_166 {a : Int} (g1 : 0 ≤ a) (g2 : a < 2) : qK (184 + 18 * a.toNat) = (7, 3) ∧ (qEl 166 a.toNat = 184 + 18 * a.toNat ∧ 184 + 18 * a.toNat < 225) :=
  (by decide +kernel : ∀ m, m < 2 → qK (184 + 18 * m) = (7, 3) ∧ (qEl 166 m = 184 + 18 * m ∧ 184 + 18 * m < 225)) a.toNat (by omega)
section qrow3
variable {L : Nat} {xs : Nat → Int32} {cc : ByteArray} {own : String} {nL d rk pc pc' : Nat} {lv lv' : List (Nat × qV)} {st stk : List qV} {h : qH} {x : Option (Int × qH)}
theorem S_zretl {a : Int} (ha : a = 0 ∨ a = 1) (hd : decode cc pc = .ok (.ireturn, 1)) : qS L xs cc own nL d 4 pc lv [qi a] h (some (a, h)) := S_end hd (fun _ => rfl) (fun _ => ha)
theorem S_lh {e : qH} {f : qH → Option (Int × qH)} (k : ∀ h1, qS L xs cc own nL d rk pc lv st h1 (f h1)) : qS L xs cc own nL d rk pc lv st e (qlt e f) := k e
theorem S_li {a : Int} {i : Nat} {f : Int → Option (Int × qH)} (k : ∀ v, qS L xs cc own nL d rk pc ((i, qi v) :: lv) st h (f v)) : qS L xs cc own nL d rk pc ((i, qi a) :: lv) st h (qlt a f) := k a
theorem S_lj {a : Int} {i : Nat} {f : Int → Option (Int × qH)} (k : ∀ v, qS L xs cc own nL d rk pc ((i, ql v) :: lv) st h (f v)) : qS L xs cc own nL d rk pc ((i, ql a) :: lv) st h (qlt a f) := k a
theorem S_callV_0 {y : MethodName} {bytes : ByteArray} {maxL index : Nat} {ret : Option FieldType} {rk' d' n : Nat} {as : List qV} {X : Option (Int × qH)} {K : Int → qH → Option (Int × qH)} {C : String} {i ci N : Nat} {T : u_T} {ty : Nat → FieldType} (hq : ∀ r, qpu rk' r = []) (hM : qMet L xs y bytes maxL ret rk' d' (qr i :: as) h X) (hY : qYV y C bytes maxL ret n) (hw : Cond.methodLink own index y ∈ lw_tbl) (hC : qCl ci C T N ty) (hi : qK i = (ci, N)) (hdd : d' + 1 ≤ d) (hn : as.length = n) (hst : as.reverse ++ qr i :: st = stk) (hcat : (st.map qcat).sum ≤ 8) (hd : decode cc pc = .ok (.invokevirtual index, 3)) (hp : pc + 3 = pc') (k : ∀ (r1 : Int) (h1 : qH), X = some (r1, h1) → qS L xs cc own nL d rk pc' lv st h1 (K r1 h1)) : qS L xs cc own nL d rk pc lv stk h (qbd X K) := S_callV hM hY hw hC hi hdd hn hst hcat hd hp (fun r1 h1 e => by rw [hq]; exact k r1 h1 e)
theorem S_callVN_0 {y : MethodName} {bytes : ByteArray} {maxL index : Nat} {ret : Option FieldType} {rk' d' n : Nat} {as : List qV} {X : Option (Int × qH)} {K : Int → qH → Option (Int × qH)} {C host : String} {i ci N : Nat} {T : u_T} {ty : Nat → FieldType} (hq : ∀ r, qpu rk' r = []) (hM : qMet L xs y bytes maxL ret rk' d' (qr i :: as) h X) (hY : qYV y C bytes maxL ret n) (hw : Cond.methodLinkNest own index y host ∈ lw_tbl) (hC : qCl ci C T N ty) (hi : qK i = (ci, N)) (hdd : d' + 1 ≤ d) (hn : as.length = n) (hst : as.reverse ++ qr i :: st = stk) (hcat : (st.map qcat).sum ≤ 8) (hd : decode cc pc = .ok (.invokevirtual index, 3)) (hp : pc + 3 = pc') (k : ∀ (r1 : Int) (h1 : qH), X = some (r1, h1) → qS L xs cc own nL d rk pc' lv st h1 (K r1 h1)) : qS L xs cc own nL d rk pc lv stk h (qbd X K) := S_callVN hM hY hw hC hi hdd hn hst hcat hd hp (fun r1 h1 e => by rw [hq]; exact k r1 h1 e)
theorem S_callS_0 {y : MethodName} {bytes : ByteArray} {maxL index : Nat} {ret : Option FieldType} {rk' d' n : Nat} {as : List qV} {X : Option (Int × qH)} {K : Int → qH → Option (Int × qH)} (hq : ∀ r, qpu rk' r = []) (hM : qMet L xs y bytes maxL ret rk' d' as h X) (hY : qYS y bytes maxL ret n) (hw : Cond.methodLink own index y ∈ lw_tbl) (hdd : d' + 1 ≤ d) (hn : as.length = n) (hst : as.reverse ++ st = stk) (hcat : (st.map qcat).sum ≤ 8) (hd : decode cc pc = .ok (.invokestatic index, 3)) (hp : pc + 3 = pc') (k : ∀ (r1 : Int) (h1 : qH), X = some (r1, h1) → qS L xs cc own nL d rk pc' lv st h1 (K r1 h1)) : qS L xs cc own nL d rk pc lv stk h (qbd X K) := S_callS hM hY hw hdd hn hst hcat hd hp (fun r1 h1 e => by rw [hq]; exact k r1 h1 e)
theorem S_callT_0 {y : MethodName} {bytes : ByteArray} {maxL index : Nat} {ret : Option FieldType} {rk' d' n : Nat} {as : List qV} {X : Option (Int × qH)} {K : Int → qH → Option (Int × qH)} {t : Nat} (hq : ∀ r, qpu rk' r = []) (hM : qMet L xs y bytes maxL ret rk' d' (qr (300 + 2 * t) :: as) h X) (hY : qYV y "java/lang/String" bytes maxL ret n) (hw : Cond.methodLink own index y ∈ lw_tbl) (ht : t < 31) (hdd : d' + 1 ≤ d) (hn : as.length = n) (hst : as.reverse ++ qr (300 + 2 * t) :: st = stk) (hcat : (st.map qcat).sum ≤ 8) (hd : decode cc pc = .ok (.invokevirtual index, 3)) (hp : pc + 3 = pc') (k : ∀ (r1 : Int) (h1 : qH), X = some (r1, h1) → qS L xs cc own nL d rk pc' lv st h1 (K r1 h1)) : qS L xs cc own nL d rk pc lv stk h (qbd X K) := S_callT hM hY hw ht hdd hn hst hcat hd hp (fun r1 h1 e => by rw [hq]; exact k r1 h1 e)
theorem S_callV_i {y : MethodName} {bytes : ByteArray} {maxL index : Nat} {ret : Option FieldType} {rk' d' n : Nat} {as : List qV} {X : Option (Int × qH)} {K : Int → qH → Option (Int × qH)} {C : String} {i ci N : Nat} {T : u_T} {ty : Nat → FieldType} (hq : ∀ r, qpu rk' r = [qi r]) (hM : qMet L xs y bytes maxL ret rk' d' (qr i :: as) h X) (hY : qYV y C bytes maxL ret n) (hw : Cond.methodLink own index y ∈ lw_tbl) (hC : qCl ci C T N ty) (hi : qK i = (ci, N)) (hdd : d' + 1 ≤ d) (hn : as.length = n) (hst : as.reverse ++ qr i :: st = stk) (hcat : (st.map qcat).sum ≤ 8) (hd : decode cc pc = .ok (.invokevirtual index, 3)) (hp : pc + 3 = pc') (k : ∀ (r1 : Int) (h1 : qH), X = some (r1, h1) → qS L xs cc own nL d rk pc' lv (qi r1 :: st) h1 (K r1 h1)) : qS L xs cc own nL d rk pc lv stk h (qbd X K) := S_callV hM hY hw hC hi hdd hn hst hcat hd hp (fun r1 h1 e => by rw [hq]; exact k r1 h1 e)
theorem S_callVN_i {y : MethodName} {bytes : ByteArray} {maxL index : Nat} {ret : Option FieldType} {rk' d' n : Nat} {as : List qV} {X : Option (Int × qH)} {K : Int → qH → Option (Int × qH)} {C host : String} {i ci N : Nat} {T : u_T} {ty : Nat → FieldType} (hq : ∀ r, qpu rk' r = [qi r]) (hM : qMet L xs y bytes maxL ret rk' d' (qr i :: as) h X) (hY : qYV y C bytes maxL ret n) (hw : Cond.methodLinkNest own index y host ∈ lw_tbl) (hC : qCl ci C T N ty) (hi : qK i = (ci, N)) (hdd : d' + 1 ≤ d) (hn : as.length = n) (hst : as.reverse ++ qr i :: st = stk) (hcat : (st.map qcat).sum ≤ 8) (hd : decode cc pc = .ok (.invokevirtual index, 3)) (hp : pc + 3 = pc') (k : ∀ (r1 : Int) (h1 : qH), X = some (r1, h1) → qS L xs cc own nL d rk pc' lv (qi r1 :: st) h1 (K r1 h1)) : qS L xs cc own nL d rk pc lv stk h (qbd X K) := S_callVN hM hY hw hC hi hdd hn hst hcat hd hp (fun r1 h1 e => by rw [hq]; exact k r1 h1 e)
theorem S_callS_i {y : MethodName} {bytes : ByteArray} {maxL index : Nat} {ret : Option FieldType} {rk' d' n : Nat} {as : List qV} {X : Option (Int × qH)} {K : Int → qH → Option (Int × qH)} (hq : ∀ r, qpu rk' r = [qi r]) (hM : qMet L xs y bytes maxL ret rk' d' as h X) (hY : qYS y bytes maxL ret n) (hw : Cond.methodLink own index y ∈ lw_tbl) (hdd : d' + 1 ≤ d) (hn : as.length = n) (hst : as.reverse ++ st = stk) (hcat : (st.map qcat).sum ≤ 8) (hd : decode cc pc = .ok (.invokestatic index, 3)) (hp : pc + 3 = pc') (k : ∀ (r1 : Int) (h1 : qH), X = some (r1, h1) → qS L xs cc own nL d rk pc' lv (qi r1 :: st) h1 (K r1 h1)) : qS L xs cc own nL d rk pc lv stk h (qbd X K) := S_callS hM hY hw hdd hn hst hcat hd hp (fun r1 h1 e => by rw [hq]; exact k r1 h1 e)
theorem S_callT_i {y : MethodName} {bytes : ByteArray} {maxL index : Nat} {ret : Option FieldType} {rk' d' n : Nat} {as : List qV} {X : Option (Int × qH)} {K : Int → qH → Option (Int × qH)} {t : Nat} (hq : ∀ r, qpu rk' r = [qi r]) (hM : qMet L xs y bytes maxL ret rk' d' (qr (300 + 2 * t) :: as) h X) (hY : qYV y "java/lang/String" bytes maxL ret n) (hw : Cond.methodLink own index y ∈ lw_tbl) (ht : t < 31) (hdd : d' + 1 ≤ d) (hn : as.length = n) (hst : as.reverse ++ qr (300 + 2 * t) :: st = stk) (hcat : (st.map qcat).sum ≤ 8) (hd : decode cc pc = .ok (.invokevirtual index, 3)) (hp : pc + 3 = pc') (k : ∀ (r1 : Int) (h1 : qH), X = some (r1, h1) → qS L xs cc own nL d rk pc' lv (qi r1 :: st) h1 (K r1 h1)) : qS L xs cc own nL d rk pc lv stk h (qbd X K) := S_callT hM hY hw ht hdd hn hst hcat hd hp (fun r1 h1 e => by rw [hq]; exact k r1 h1 e)
theorem S_callV_l {y : MethodName} {bytes : ByteArray} {maxL index : Nat} {ret : Option FieldType} {rk' d' n : Nat} {as : List qV} {X : Option (Int × qH)} {K : Int → qH → Option (Int × qH)} {C : String} {i ci N : Nat} {T : u_T} {ty : Nat → FieldType} (hq : ∀ r, qpu rk' r = [ql r]) (hM : qMet L xs y bytes maxL ret rk' d' (qr i :: as) h X) (hY : qYV y C bytes maxL ret n) (hw : Cond.methodLink own index y ∈ lw_tbl) (hC : qCl ci C T N ty) (hi : qK i = (ci, N)) (hdd : d' + 1 ≤ d) (hn : as.length = n) (hst : as.reverse ++ qr i :: st = stk) (hcat : (st.map qcat).sum ≤ 8) (hd : decode cc pc = .ok (.invokevirtual index, 3)) (hp : pc + 3 = pc') (k : ∀ (r1 : Int) (h1 : qH), X = some (r1, h1) → qS L xs cc own nL d rk pc' lv (ql r1 :: st) h1 (K r1 h1)) : qS L xs cc own nL d rk pc lv stk h (qbd X K) := S_callV hM hY hw hC hi hdd hn hst hcat hd hp (fun r1 h1 e => by rw [hq]; exact k r1 h1 e)
theorem S_callVN_l {y : MethodName} {bytes : ByteArray} {maxL index : Nat} {ret : Option FieldType} {rk' d' n : Nat} {as : List qV} {X : Option (Int × qH)} {K : Int → qH → Option (Int × qH)} {C host : String} {i ci N : Nat} {T : u_T} {ty : Nat → FieldType} (hq : ∀ r, qpu rk' r = [ql r]) (hM : qMet L xs y bytes maxL ret rk' d' (qr i :: as) h X) (hY : qYV y C bytes maxL ret n) (hw : Cond.methodLinkNest own index y host ∈ lw_tbl) (hC : qCl ci C T N ty) (hi : qK i = (ci, N)) (hdd : d' + 1 ≤ d) (hn : as.length = n) (hst : as.reverse ++ qr i :: st = stk) (hcat : (st.map qcat).sum ≤ 8) (hd : decode cc pc = .ok (.invokevirtual index, 3)) (hp : pc + 3 = pc') (k : ∀ (r1 : Int) (h1 : qH), X = some (r1, h1) → qS L xs cc own nL d rk pc' lv (ql r1 :: st) h1 (K r1 h1)) : qS L xs cc own nL d rk pc lv stk h (qbd X K) := S_callVN hM hY hw hC hi hdd hn hst hcat hd hp (fun r1 h1 e => by rw [hq]; exact k r1 h1 e)
theorem S_callS_l {y : MethodName} {bytes : ByteArray} {maxL index : Nat} {ret : Option FieldType} {rk' d' n : Nat} {as : List qV} {X : Option (Int × qH)} {K : Int → qH → Option (Int × qH)} (hq : ∀ r, qpu rk' r = [ql r]) (hM : qMet L xs y bytes maxL ret rk' d' as h X) (hY : qYS y bytes maxL ret n) (hw : Cond.methodLink own index y ∈ lw_tbl) (hdd : d' + 1 ≤ d) (hn : as.length = n) (hst : as.reverse ++ st = stk) (hcat : (st.map qcat).sum ≤ 8) (hd : decode cc pc = .ok (.invokestatic index, 3)) (hp : pc + 3 = pc') (k : ∀ (r1 : Int) (h1 : qH), X = some (r1, h1) → qS L xs cc own nL d rk pc' lv (ql r1 :: st) h1 (K r1 h1)) : qS L xs cc own nL d rk pc lv stk h (qbd X K) := S_callS hM hY hw hdd hn hst hcat hd hp (fun r1 h1 e => by rw [hq]; exact k r1 h1 e)
theorem S_callT_l {y : MethodName} {bytes : ByteArray} {maxL index : Nat} {ret : Option FieldType} {rk' d' n : Nat} {as : List qV} {X : Option (Int × qH)} {K : Int → qH → Option (Int × qH)} {t : Nat} (hq : ∀ r, qpu rk' r = [ql r]) (hM : qMet L xs y bytes maxL ret rk' d' (qr (300 + 2 * t) :: as) h X) (hY : qYV y "java/lang/String" bytes maxL ret n) (hw : Cond.methodLink own index y ∈ lw_tbl) (ht : t < 31) (hdd : d' + 1 ≤ d) (hn : as.length = n) (hst : as.reverse ++ qr (300 + 2 * t) :: st = stk) (hcat : (st.map qcat).sum ≤ 8) (hd : decode cc pc = .ok (.invokevirtual index, 3)) (hp : pc + 3 = pc') (k : ∀ (r1 : Int) (h1 : qH), X = some (r1, h1) → qS L xs cc own nL d rk pc' lv (ql r1 :: st) h1 (K r1 h1)) : qS L xs cc own nL d rk pc lv stk h (qbd X K) := S_callT hM hY hw ht hdd hn hst hcat hd hp (fun r1 h1 e => by rw [hq]; exact k r1 h1 e)
theorem S_callV_r {y : MethodName} {bytes : ByteArray} {maxL index : Nat} {ret : Option FieldType} {rk' d' n : Nat} {as : List qV} {X : Option (Int × qH)} {K : Int → qH → Option (Int × qH)} {C : String} {i ci N : Nat} {T : u_T} {ty : Nat → FieldType} (hq : ∀ r, qpu rk' r = [qr r.toNat]) (hM : qMet L xs y bytes maxL ret rk' d' (qr i :: as) h X) (hY : qYV y C bytes maxL ret n) (hw : Cond.methodLink own index y ∈ lw_tbl) (hC : qCl ci C T N ty) (hi : qK i = (ci, N)) (hdd : d' + 1 ≤ d) (hn : as.length = n) (hst : as.reverse ++ qr i :: st = stk) (hcat : (st.map qcat).sum ≤ 8) (hd : decode cc pc = .ok (.invokevirtual index, 3)) (hp : pc + 3 = pc') (k : ∀ (r1 : Int) (h1 : qH), X = some (r1, h1) → qS L xs cc own nL d rk pc' lv (qr r1.toNat :: st) h1 (K r1 h1)) : qS L xs cc own nL d rk pc lv stk h (qbd X K) := S_callV hM hY hw hC hi hdd hn hst hcat hd hp (fun r1 h1 e => by rw [hq]; exact k r1 h1 e)
theorem S_callVN_r {y : MethodName} {bytes : ByteArray} {maxL index : Nat} {ret : Option FieldType} {rk' d' n : Nat} {as : List qV} {X : Option (Int × qH)} {K : Int → qH → Option (Int × qH)} {C host : String} {i ci N : Nat} {T : u_T} {ty : Nat → FieldType} (hq : ∀ r, qpu rk' r = [qr r.toNat]) (hM : qMet L xs y bytes maxL ret rk' d' (qr i :: as) h X) (hY : qYV y C bytes maxL ret n) (hw : Cond.methodLinkNest own index y host ∈ lw_tbl) (hC : qCl ci C T N ty) (hi : qK i = (ci, N)) (hdd : d' + 1 ≤ d) (hn : as.length = n) (hst : as.reverse ++ qr i :: st = stk) (hcat : (st.map qcat).sum ≤ 8) (hd : decode cc pc = .ok (.invokevirtual index, 3)) (hp : pc + 3 = pc') (k : ∀ (r1 : Int) (h1 : qH), X = some (r1, h1) → qS L xs cc own nL d rk pc' lv (qr r1.toNat :: st) h1 (K r1 h1)) : qS L xs cc own nL d rk pc lv stk h (qbd X K) := S_callVN hM hY hw hC hi hdd hn hst hcat hd hp (fun r1 h1 e => by rw [hq]; exact k r1 h1 e)
theorem S_callS_r {y : MethodName} {bytes : ByteArray} {maxL index : Nat} {ret : Option FieldType} {rk' d' n : Nat} {as : List qV} {X : Option (Int × qH)} {K : Int → qH → Option (Int × qH)} (hq : ∀ r, qpu rk' r = [qr r.toNat]) (hM : qMet L xs y bytes maxL ret rk' d' as h X) (hY : qYS y bytes maxL ret n) (hw : Cond.methodLink own index y ∈ lw_tbl) (hdd : d' + 1 ≤ d) (hn : as.length = n) (hst : as.reverse ++ st = stk) (hcat : (st.map qcat).sum ≤ 8) (hd : decode cc pc = .ok (.invokestatic index, 3)) (hp : pc + 3 = pc') (k : ∀ (r1 : Int) (h1 : qH), X = some (r1, h1) → qS L xs cc own nL d rk pc' lv (qr r1.toNat :: st) h1 (K r1 h1)) : qS L xs cc own nL d rk pc lv stk h (qbd X K) := S_callS hM hY hw hdd hn hst hcat hd hp (fun r1 h1 e => by rw [hq]; exact k r1 h1 e)
theorem S_callT_r {y : MethodName} {bytes : ByteArray} {maxL index : Nat} {ret : Option FieldType} {rk' d' n : Nat} {as : List qV} {X : Option (Int × qH)} {K : Int → qH → Option (Int × qH)} {t : Nat} (hq : ∀ r, qpu rk' r = [qr r.toNat]) (hM : qMet L xs y bytes maxL ret rk' d' (qr (300 + 2 * t) :: as) h X) (hY : qYV y "java/lang/String" bytes maxL ret n) (hw : Cond.methodLink own index y ∈ lw_tbl) (ht : t < 31) (hdd : d' + 1 ≤ d) (hn : as.length = n) (hst : as.reverse ++ qr (300 + 2 * t) :: st = stk) (hcat : (st.map qcat).sum ≤ 8) (hd : decode cc pc = .ok (.invokevirtual index, 3)) (hp : pc + 3 = pc') (k : ∀ (r1 : Int) (h1 : qH), X = some (r1, h1) → qS L xs cc own nL d rk pc' lv (qr r1.toNat :: st) h1 (K r1 h1)) : qS L xs cc own nL d rk pc lv stk h (qbd X K) := S_callT hM hY hw ht hdd hn hst hcat hd hp (fun r1 h1 e => by rw [hq]; exact k r1 h1 e)
end qrow3
