/-! every method of ours is in order -/
theorem mb_0 : pj_okB 0 mt_0 := ⟨md_0, mk_0⟩
theorem mb_1 : pj_okB 1 mt_1 := ⟨md_1, mk_1⟩
theorem mb_2 : pj_okB 2 mt_2 := ⟨md_2, mk_2⟩
theorem mb_3 : pj_okB 3 mt_3 := ⟨md_3, mk_3⟩
theorem mb_4 : pj_okB 4 mt_4 := ⟨md_4, mk_4⟩
theorem mb_5 : pj_okB 5 mt_5 := ⟨md_5, mk_5⟩
theorem mb_6 : pj_okB 6 mt_6 := ⟨md_6, mk_6⟩
theorem mb_7 : pj_okB 7 mt_7 := ⟨md_7, mk_7⟩
theorem mb_8 : pj_okB 8 mt_8 := ⟨md_8, mk_8⟩
theorem mb_9 : pj_okB 9 mt_9 := ⟨md_9, mk_9⟩
theorem mb_10 : pj_okB 10 mt_10 := ⟨md_10, mk_10⟩
theorem mb_11 : pj_okB 11 mt_11 := ⟨md_11, mk_11⟩
theorem mb_12 : pj_okB 12 mt_12 := ⟨md_12, mk_12⟩
theorem mb_13 : pj_okB 13 mt_13 := ⟨md_13, mk_13⟩
theorem mb_14 : pj_okB 14 mt_14 := ⟨md_14, mk_14⟩
theorem mb_15 : pj_okB 15 mt_15 := ⟨md_15, mk_15⟩
theorem mb_16 : pj_okB 16 mt_16 := ⟨md_16, mk_16⟩
theorem mb_17 : pj_okB 17 mt_17 := ⟨md_17, mk_17⟩
theorem mb_18 : pj_okB 18 mt_18 := ⟨md_18, mk_18⟩
theorem mb_19 : pj_okB 19 mt_19 := ⟨md_19, mk_19⟩
theorem mb_20 : pj_okB 20 mt_20 := ⟨md_20, mk_20⟩
theorem mb_21 : pj_okB 21 mt_21 := ⟨md_21, mk_21⟩
theorem mb_22 : pj_okB 22 mt_22 := ⟨md_22, mk_22⟩
theorem mb_23 : pj_okB 23 mt_23 := ⟨md_23, mk_23⟩
theorem mb_24 : pj_okB 24 mt_24 := ⟨md_24, mk_24⟩
theorem mb_25 : pj_okB 25 mt_25 := ⟨md_25, mk_25⟩
theorem mb_26 : pj_okB 26 mt_26 := ⟨md_26, mk_26⟩
theorem mb_27 : pj_okB 27 mt_27 := ⟨md_27, mk_27⟩
theorem mb_28 : pj_okB 28 mt_28 := ⟨md_28, mk_28⟩
theorem mb_29 : pj_okB 29 mt_29 := ⟨md_29, mk_29⟩
theorem mb_30 : pj_okB 30 mt_30 := ⟨md_30, mk_30⟩
theorem mb_31 : pj_okB 31 mt_31 := ⟨md_31, mk_31⟩
theorem mb_32 : pj_okB 32 mt_32 := ⟨md_32, mk_32⟩
theorem mb_33 : pj_okB 33 mt_33 := ⟨md_33, mk_33⟩
theorem mb_34 : pj_okB 34 mt_34 := ⟨md_34, mk_34⟩
theorem mb_35 : pj_okB 35 mt_35 := ⟨md_35, mk_35⟩
theorem mb_36 : pj_okB 36 mt_36 := ⟨md_36, mk_36⟩
theorem mb_37 : pj_okB 37 mt_37 := ⟨md_37, mk_37⟩
theorem mb_38 : pj_okB 38 mt_38 := ⟨md_38, mk_38⟩
theorem mb_39 : pj_okB 39 mt_39 := ⟨md_39, mk_39⟩
theorem mb_40 : pj_okB 40 mt_40 := ⟨md_40, mk_40⟩
theorem mb_41 : pj_okB 41 mt_41 := ⟨md_41, mk_41⟩
theorem mb_42 : pj_okB 42 mt_42 := ⟨md_42, mk_42⟩
theorem mb_43 : pj_okB 43 mt_43 := ⟨md_43, mk_43⟩
theorem mb_44 : pj_okB 44 mt_44 := ⟨md_44, mk_44⟩
theorem mb_45 : pj_okB 45 mt_45 := ⟨md_45, mk_45⟩
theorem mb_46 : pj_okB 46 mt_46 := ⟨md_46, mk_46⟩
theorem mb_47 : pj_okB 47 mt_47 := ⟨md_47, mk_47⟩
theorem mb_48 : pj_okB 48 mt_48 := ⟨md_48, mk_48⟩
theorem mb_49 : pj_okB 49 mt_49 := ⟨md_49, mk_49⟩
theorem mb_50 : pj_okB 50 mt_50 := ⟨md_50, mk_50⟩
theorem mb_51 : pj_okB 51 mt_51 := ⟨md_51, mk_51⟩
theorem mb_52 : pj_okB 52 mt_52 := ⟨md_52, mk_52⟩
theorem mb_53 : pj_okB 53 mt_53 := ⟨md_53, mk_53⟩
theorem mb_54 : pj_okB 54 mt_54 := ⟨md_54, mk_54⟩
theorem mb_55 : pj_okB 55 mt_55 := ⟨md_55, mk_55⟩
theorem mb_56 : pj_okB 56 mt_56 := ⟨md_56, mk_56⟩
theorem mb_57 : pj_okB 57 mt_57 := ⟨md_57, mk_57⟩
theorem mb_58 : pj_okB 58 mt_58 := ⟨md_58, mk_58⟩
theorem mb_59 : pj_okB 59 mt_59 := ⟨md_59, mk_59⟩
theorem mb_60 : pj_okB 60 mt_60 := ⟨md_60, mk_60⟩
theorem mb_61 : pj_okB 61 mt_61 := ⟨md_61, mk_61⟩
theorem mb_62 : pj_okB 62 mt_62 := ⟨md_62, mk_62⟩
theorem mb_63 : pj_okB 63 mt_63 := ⟨md_63, mk_63⟩
theorem mb_64 : pj_okB 64 mt_64 := ⟨md_64, mk_64⟩
theorem mb_65 : pj_okB 65 mt_65 := ⟨md_65, mk_65⟩
theorem mb_66 : pj_okB 66 mt_66 := ⟨md_66, mk_66⟩
theorem mb_67 : pj_okB 67 mt_67 := ⟨md_67, mk_67⟩
theorem mb_68 : pj_okB 68 mt_68 := ⟨md_68, mk_68⟩
theorem mb_69 : pj_okB 69 mt_69 := ⟨md_69, mk_69⟩
theorem mb_70 : pj_okB 70 mt_70 := ⟨md_70, mk_70⟩
theorem mb_71 : pj_okB 71 mt_71 := ⟨md_71, mk_71⟩
theorem mb_72 : pj_okB 72 mt_72 := ⟨md_72, mk_72⟩
theorem mb_73 : pj_okB 73 mt_73 := ⟨md_73, mk_73⟩
theorem mb_74 : pj_okB 74 mt_74 := ⟨md_74, mk_74⟩
theorem mb_75 : pj_okB 75 mt_75 := ⟨md_75, mk_75⟩
theorem mb_76 : pj_okB 76 mt_76 := ⟨md_76, mk_76⟩
theorem mb_77 : pj_okB 77 mt_77 := ⟨md_77, mk_77⟩
theorem mb_78 : pj_okB 78 mt_78 := ⟨md_78, mk_78⟩
theorem mb_79 : pj_okB 79 mt_79 := ⟨md_79, mk_79⟩
theorem mb_80 : pj_okB 80 mt_80 := ⟨md_80, mk_80⟩
theorem mb_81 : pj_okB 81 mt_81 := ⟨md_81, mk_81⟩
theorem mb_82 : pj_okB 82 mt_82 := ⟨md_82, mk_82⟩
theorem mb_83 : pj_okB 83 mt_83 := ⟨md_83, mk_83⟩
theorem mb_84 : pj_okB 84 mt_84 := ⟨md_84, mk_84⟩
theorem mb_85 : pj_okB 85 mt_85 := ⟨md_85, mk_85⟩
theorem mb_86 : pj_okB 86 mt_86 := ⟨md_86, mk_86⟩
theorem mb_87 : pj_okB 87 mt_87 := ⟨md_87, mk_87⟩
theorem mb_88 : pj_okB 88 mt_88 := ⟨md_88, mk_88⟩
theorem mb_89 : pj_okB 89 mt_89 := ⟨md_89, mk_89⟩
theorem mb_90 : pj_okB 90 mt_90 := ⟨md_90, mk_90⟩
theorem mb_91 : pj_okB 91 mt_91 := ⟨md_91, mk_91⟩
theorem mb_92 : pj_okB 92 mt_92 := ⟨md_92, mk_92⟩
theorem mb_93 : pj_okB 93 mt_93 := ⟨md_93, mk_93⟩
theorem mb_94 : pj_okB 94 mt_94 := ⟨md_94, mk_94⟩
theorem mb_95 : pj_okB 95 mt_95 := ⟨md_95, mk_95⟩
theorem mb_96 : pj_okB 96 mt_96 := ⟨md_96, mk_96⟩
theorem mb_97 : pj_okB 97 mt_97 := ⟨md_97, mk_97⟩
theorem mb_98 : pj_okB 98 mt_98 := ⟨md_98, mk_98⟩
theorem mb_99 : pj_okB 99 mt_99 := ⟨md_99, mk_99⟩
theorem mb_100 : pj_okB 100 mt_100 := ⟨md_100, mk_100⟩
theorem mb_101 : pj_okB 101 mt_101 := ⟨md_101, mk_101⟩
theorem mb_102 : pj_okB 102 mt_102 := ⟨md_102, mk_102⟩
theorem mb_103 : pj_okB 103 mt_103 := ⟨md_103, mk_103⟩
theorem mb_104 : pj_okB 104 mt_104 := ⟨md_104, mk_104⟩
theorem mb_105 : pj_okB 105 mt_105 := ⟨md_105, mk_105⟩
theorem mb_106 : pj_okB 106 mt_106 := ⟨md_106, mk_106⟩
theorem mb_107 : pj_okB 107 mt_107 := ⟨md_107, mk_107⟩
theorem mb_108 : pj_okB 108 mt_108 := ⟨md_108, mk_108⟩
theorem mb_109 : pj_okB 109 mt_109 := ⟨md_109, mk_109⟩
theorem mb_110 : pj_okB 110 mt_110 := ⟨md_110, mk_110⟩
theorem mb_111 : pj_okB 111 mt_111 := ⟨md_111, mk_111⟩
theorem mb_112 : pj_okB 112 mt_112 := ⟨md_112, mk_112⟩
theorem mb_113 : pj_okB 113 mt_113 := ⟨md_113, mk_113⟩
theorem mb_114 : pj_okB 114 mt_114 := ⟨md_114, mk_114⟩
theorem mb_115 : pj_okB 115 mt_115 := ⟨md_115, mk_115⟩
theorem mb_116 : pj_okB 116 mt_116 := ⟨md_116, mk_116⟩
theorem mb_117 : pj_okB 117 mt_117 := ⟨md_117, mk_117⟩
theorem mb_118 : pj_okB 118 mt_118 := ⟨md_118, mk_118⟩
theorem mb_119 : pj_okB 119 mt_119 := ⟨md_119, mk_119⟩
theorem mb_120 : pj_okB 120 mt_120 := ⟨md_120, mk_120⟩
theorem mb_121 : pj_okB 121 mt_121 := ⟨md_121, mk_121⟩
theorem mb_122 : pj_okB 122 mt_122 := ⟨md_122, mk_122⟩
theorem mb_123 : pj_okB 123 mt_123 := ⟨md_123, mk_123⟩
theorem mb_124 : pj_okB 124 mt_124 := ⟨md_124, mk_124⟩
theorem mb_125 : pj_okB 125 mt_125 := ⟨md_125, mk_125⟩
theorem mb_126 : pj_okB 126 mt_126 := ⟨md_126, mk_126⟩
theorem mb_127 : pj_okB 127 mt_127 := ⟨md_127, mk_127⟩
theorem mb_128 : pj_okB 128 mt_128 := ⟨md_128, mk_128⟩
theorem mb_129 : pj_okB 129 mt_129 := ⟨md_129, mk_129⟩
theorem mb_130 : pj_okB 130 mt_130 := ⟨md_130, mk_130⟩
theorem mb_131 : pj_okB 131 mt_131 := ⟨md_131, mk_131⟩
theorem mb_132 : pj_okB 132 mt_132 := ⟨md_132, mk_132⟩
theorem mb_133 : pj_okB 133 mt_133 := ⟨md_133, mk_133⟩
theorem mb_134 : pj_okB 134 mt_134 := ⟨md_134, mk_134⟩
theorem mb_135 : pj_okB 135 mt_135 := ⟨md_135, mk_135⟩
theorem mb_136 : pj_okB 136 mt_136 := ⟨md_136, mk_136⟩
theorem mb_137 : pj_okB 137 mt_137 := ⟨md_137, mk_137⟩
theorem mb_138 : pj_okB 138 mt_138 := ⟨md_138, mk_138⟩
theorem mb_139 : pj_okB 139 mt_139 := ⟨md_139, mk_139⟩
theorem mb_140 : pj_okB 140 mt_140 := ⟨md_140, mk_140⟩
theorem mb_141 : pj_okB 141 mt_141 := ⟨md_141, mk_141⟩
theorem mb_142 : pj_okB 142 mt_142 := ⟨md_142, mk_142⟩
theorem mb_143 : pj_okB 143 mt_143 := ⟨md_143, mk_143⟩
theorem mb_144 : pj_okB 144 mt_144 := ⟨md_144, mk_144⟩
theorem mb_145 : pj_okB 145 mt_145 := ⟨md_145, mk_145⟩
theorem mb_146 : pj_okB 146 mt_146 := ⟨md_146, mk_146⟩
theorem mb_147 : pj_okB 147 mt_147 := ⟨md_147, mk_147⟩
theorem mb_148 : pj_okB 148 mt_148 := ⟨md_148, mk_148⟩
theorem mb_149 : pj_okB 149 mt_149 := ⟨md_149, mk_149⟩
theorem mb_150 : pj_okB 150 mt_150 := ⟨md_150, mk_150⟩
theorem mb_151 : pj_okB 151 mt_151 := ⟨md_151, mk_151⟩
theorem mb_152 : pj_okB 152 mt_152 := ⟨md_152, mk_152⟩
theorem mb_153 : pj_okB 153 mt_153 := ⟨md_153, mk_153⟩
theorem mb_154 : pj_okB 154 mt_154 := ⟨md_154, mk_154⟩
theorem mb_155 : pj_okB 155 mt_155 := ⟨md_155, mk_155⟩
theorem mb_156 : pj_okB 156 mt_156 := ⟨md_156, mk_156⟩
theorem mb_157 : pj_okB 157 mt_157 := ⟨md_157, mk_157⟩
theorem mb_158 : pj_okB 158 mt_158 := ⟨md_158, mk_158⟩
theorem mb_159 : pj_okB 159 mt_159 := ⟨md_159, mk_159⟩
theorem mb_160 : pj_okB 160 mt_160 := ⟨md_160, mk_160⟩
theorem mb_161 : pj_okB 161 mt_161 := ⟨md_161, mk_161⟩
theorem mb_162 : pj_okB 162 mt_162 := ⟨md_162, mk_162⟩
theorem mb_163 : pj_okB 163 mt_163 := ⟨md_163, mk_163⟩
theorem mb_164 : pj_okB 164 mt_164 := ⟨md_164, mk_164⟩
theorem mb_165 : pj_okB 165 mt_165 := ⟨md_165, mk_165⟩
theorem mb_166 : pj_okB 166 mt_166 := ⟨md_166, mk_166⟩
theorem mb_167 : pj_okB 167 mt_167 := ⟨md_167, mk_167⟩
theorem mb_168 : pj_okB 168 mt_168 := ⟨md_168, mk_168⟩
theorem mb_169 : pj_okB 169 mt_169 := ⟨md_169, mk_169⟩
theorem mb_170 : pj_okB 170 mt_170 := ⟨md_170, mk_170⟩
theorem mb_171 : pj_okB 171 mt_171 := ⟨md_171, mk_171⟩
theorem mb_172 : pj_okB 172 mt_172 := ⟨md_172, mk_172⟩
theorem mb_173 : pj_okB 173 mt_173 := ⟨md_173, mk_173⟩
theorem mb_174 : pj_okB 174 mt_174 := ⟨md_174, mk_174⟩
theorem mb_175 : pj_okB 175 mt_175 := ⟨md_175, mk_175⟩
theorem mb_176 : pj_okB 176 mt_176 := ⟨md_176, mk_176⟩
theorem mb_177 : pj_okB 177 mt_177 := ⟨md_177, mk_177⟩
theorem mb_178 : pj_okB 178 mt_178 := ⟨md_178, mk_178⟩
theorem mb_179 : pj_okB 179 mt_179 := ⟨md_179, mk_179⟩
theorem mb_180 : pj_okB 180 mt_180 := ⟨md_180, mk_180⟩
theorem mb_181 : pj_okB 181 mt_181 := ⟨md_181, mk_181⟩
theorem mb_182 : pj_okB 182 mt_182 := ⟨md_182, mk_182⟩
theorem mb_183 : pj_okB 183 mt_183 := ⟨md_183, mk_183⟩
theorem mb_184 : pj_okB 184 mt_184 := ⟨md_184, mk_184⟩
theorem mb_185 : pj_okB 185 mt_185 := ⟨md_185, mk_185⟩
theorem mb_186 : pj_okB 186 mt_186 := ⟨md_186, mk_186⟩
theorem mb_187 : pj_okB 187 mt_187 := ⟨md_187, mk_187⟩
theorem mb_188 : pj_okB 188 mt_188 := ⟨md_188, mk_188⟩
theorem mb_189 : pj_okB 189 mt_189 := ⟨md_189, mk_189⟩
theorem mb_190 : pj_okB 190 mt_190 := ⟨md_190, mk_190⟩
theorem mb_191 : pj_okB 191 mt_191 := ⟨md_191, mk_191⟩
theorem mb_192 : pj_okB 192 mt_192 := ⟨md_192, mk_192⟩
theorem mb_193 : pj_okB 193 mt_193 := ⟨md_193, mk_193⟩
theorem mb_194 : pj_okB 194 mt_194 := ⟨md_194, mk_194⟩
theorem mb_195 : pj_okB 195 mt_195 := ⟨md_195, mk_195⟩
theorem mb_196 : pj_okB 196 mt_196 := ⟨md_196, mk_196⟩
theorem mb_197 : pj_okB 197 mt_197 := ⟨md_197, mk_197⟩
theorem mb_198 : pj_okB 198 mt_198 := ⟨md_198, mk_198⟩
theorem mb_199 : pj_okB 199 mt_199 := ⟨md_199, mk_199⟩
theorem mb_200 : pj_okB 200 mt_200 := ⟨md_200, mk_200⟩
theorem mb_201 : pj_okB 201 mt_201 := ⟨md_201, mk_201⟩
theorem mb_202 : pj_okB 202 mt_202 := ⟨md_202, mk_202⟩
theorem mb_203 : pj_okB 203 mt_203 := ⟨md_203, mk_203⟩
theorem mb_204 : pj_okB 204 mt_204 := ⟨md_204, mk_204⟩
theorem mb_205 : pj_okB 205 mt_205 := ⟨md_205, mk_205⟩
theorem mb_206 : pj_okB 206 mt_206 := ⟨md_206, mk_206⟩
theorem mb_207 : pj_okB 207 mt_207 := ⟨md_207, mk_207⟩
theorem mb_208 : pj_okB 208 mt_208 := ⟨md_208, mk_208⟩
theorem mb_209 : pj_okB 209 mt_209 := ⟨md_209, mk_209⟩
theorem mb_210 : pj_okB 210 mt_210 := ⟨md_210, mk_210⟩
theorem mb_211 : pj_okB 211 mt_211 := ⟨md_211, mk_211⟩
theorem mb_212 : pj_okB 212 mt_212 := ⟨md_212, mk_212⟩
theorem mb_213 : pj_okB 213 mt_213 := ⟨md_213, mk_213⟩
theorem mb_214 : pj_okB 214 mt_214 := ⟨md_214, mk_214⟩
theorem mb_215 : pj_okB 215 mt_215 := ⟨md_215, mk_215⟩
theorem mb_216 : pj_okB 216 mt_216 := ⟨md_216, mk_216⟩
theorem mb_217 : pj_okB 217 mt_217 := ⟨md_217, mk_217⟩
theorem mb_218 : pj_okB 218 mt_218 := ⟨md_218, mk_218⟩
theorem mb_219 : pj_okB 219 mt_219 := ⟨md_219, mk_219⟩
theorem mb_220 : pj_okB 220 mt_220 := ⟨md_220, mk_220⟩
theorem mb_221 : pj_okB 221 mt_221 := ⟨md_221, mk_221⟩
theorem mb_222 : pj_okB 222 mt_222 := ⟨md_222, mk_222⟩
theorem mb_223 : pj_okB 223 mt_223 := ⟨md_223, mk_223⟩
theorem mb_224 : pj_okB 224 mt_224 := ⟨md_224, mk_224⟩
theorem mb_225 : pj_okB 225 mt_225 := ⟨md_225, mk_225⟩
theorem mb_226 : pj_okB 226 mt_226 := ⟨md_226, mk_226⟩
theorem mb_227 : pj_okB 227 mt_227 := ⟨md_227, mk_227⟩
theorem mb_228 : pj_okB 228 mt_228 := ⟨md_228, mk_228⟩
theorem mb_229 : pj_okB 229 mt_229 := ⟨md_229, mk_229⟩
theorem mb_230 : pj_okB 230 mt_230 := ⟨md_230, mk_230⟩
theorem mb_231 : pj_okB 231 mt_231 := ⟨md_231, mk_231⟩
theorem mb_232 : pj_okB 232 mt_232 := ⟨md_232, mk_232⟩
theorem mb_233 : pj_okB 233 mt_233 := ⟨md_233, mk_233⟩
theorem mb_234 : pj_okB 234 mt_234 := ⟨md_234, mk_234⟩
theorem mb_235 : pj_okB 235 mt_235 := ⟨md_235, mk_235⟩
theorem mb_236 : pj_okB 236 mt_236 := ⟨md_236, mk_236⟩
theorem mb_237 : pj_okB 237 mt_237 := ⟨md_237, mk_237⟩
theorem mb_238 : pj_okB 238 mt_238 := ⟨md_238, mk_238⟩
theorem mb_239 : pj_okB 239 mt_239 := ⟨md_239, mk_239⟩
theorem mb_240 : pj_okB 240 mt_240 := ⟨md_240, mk_240⟩
theorem mb_241 : pj_okB 241 mt_241 := ⟨md_241, mk_241⟩
theorem mb_242 : pj_okB 242 mt_242 := ⟨md_242, mk_242⟩
theorem mb_243 : pj_okB 243 mt_243 := ⟨md_243, mk_243⟩
theorem mb_244 : pj_okB 244 mt_244 := ⟨md_244, mk_244⟩
theorem mb_245 : pj_okB 245 mt_245 := ⟨md_245, mk_245⟩
theorem mb_246 : pj_okB 246 mt_246 := ⟨md_246, mk_246⟩
theorem mb_247 : pj_okB 247 mt_247 := ⟨md_247, mk_247⟩
theorem mb_248 : pj_okB 248 mt_248 := ⟨md_248, mk_248⟩
theorem mb_249 : pj_okB 249 mt_249 := ⟨md_249, mk_249⟩
theorem mb_250 : pj_okB 250 mt_250 := ⟨md_250, mk_250⟩
theorem mb_251 : pj_okB 251 mt_251 := ⟨md_251, mk_251⟩
theorem mb_252 : pj_okB 252 mt_252 := ⟨md_252, mk_252⟩
theorem mb_253 : pj_okB 253 mt_253 := ⟨md_253, mk_253⟩
theorem mb_254 : pj_okB 254 mt_254 := ⟨md_254, mk_254⟩
theorem mb_255 : pj_okB 255 mt_255 := ⟨md_255, mk_255⟩
theorem mb_256 : pj_okB 256 mt_256 := ⟨md_256, mk_256⟩
theorem mb_257 : pj_okB 257 mt_257 := ⟨md_257, mk_257⟩
theorem mb_258 : pj_okB 258 mt_258 := ⟨md_258, mk_258⟩
theorem mb_259 : pj_okB 259 mt_259 := ⟨md_259, mk_259⟩
theorem mb_260 : pj_okB 260 mt_260 := ⟨md_260, mk_260⟩
theorem mb_261 : pj_okB 261 mt_261 := ⟨md_261, mk_261⟩
theorem mb_262 : pj_okB 262 mt_262 := ⟨md_262, mk_262⟩
theorem mb_263 : pj_okB 263 mt_263 := ⟨md_263, mk_263⟩
theorem mb_264 : pj_okB 264 mt_264 := ⟨md_264, mk_264⟩
theorem pj_okBall : ∀ (k : Nat) (t : pj_T), tm k = some t → pj_okB k t := by
  intro k t h
  have hk : k < 265 := by
    rcases Nat.lt_or_ge k 265 with q | q
    · exact q
    · exfalso
      unfold tm at h
      rw [show Nat.blt k 265 = false by rw [← Bool.not_eq_true, Nat.blt_eq]; omega] at h
      cases h
  by_cases h0_265 : k < 133
  · by_cases h0_133 : k < 67
    · by_cases h0_67 : k < 34
      · by_cases h0_34 : k < 17
        · by_cases h0_17 : k < 9
          · by_cases h0_9 : k < 5
            · by_cases h0_5 : k < 3
              · by_cases h0_3 : k < 2
                · by_cases h0_2 : k < 1
                  · obtain rfl : k = 0 := by omega
                    obtain rfl : mt_0 = t := Option.some.inj h
                    exact mb_0
                  · obtain rfl : k = 1 := by omega
                    obtain rfl : mt_1 = t := Option.some.inj h
                    exact mb_1
                · obtain rfl : k = 2 := by omega
                  obtain rfl : mt_2 = t := Option.some.inj h
                  exact mb_2
              · by_cases h3_5 : k < 4
                · obtain rfl : k = 3 := by omega
                  obtain rfl : mt_3 = t := Option.some.inj h
                  exact mb_3
                · obtain rfl : k = 4 := by omega
                  obtain rfl : mt_4 = t := Option.some.inj h
                  exact mb_4
            · by_cases h5_9 : k < 7
              · by_cases h5_7 : k < 6
                · obtain rfl : k = 5 := by omega
                  obtain rfl : mt_5 = t := Option.some.inj h
                  exact mb_5
                · obtain rfl : k = 6 := by omega
                  obtain rfl : mt_6 = t := Option.some.inj h
                  exact mb_6
              · by_cases h7_9 : k < 8
                · obtain rfl : k = 7 := by omega
                  obtain rfl : mt_7 = t := Option.some.inj h
                  exact mb_7
                · obtain rfl : k = 8 := by omega
                  obtain rfl : mt_8 = t := Option.some.inj h
                  exact mb_8
          · by_cases h9_17 : k < 13
            · by_cases h9_13 : k < 11
              · by_cases h9_11 : k < 10
                · obtain rfl : k = 9 := by omega
                  obtain rfl : mt_9 = t := Option.some.inj h
                  exact mb_9
                · obtain rfl : k = 10 := by omega
                  obtain rfl : mt_10 = t := Option.some.inj h
                  exact mb_10
              · by_cases h11_13 : k < 12
                · obtain rfl : k = 11 := by omega
                  obtain rfl : mt_11 = t := Option.some.inj h
                  exact mb_11
                · obtain rfl : k = 12 := by omega
                  obtain rfl : mt_12 = t := Option.some.inj h
                  exact mb_12
            · by_cases h13_17 : k < 15
              · by_cases h13_15 : k < 14
                · obtain rfl : k = 13 := by omega
                  obtain rfl : mt_13 = t := Option.some.inj h
                  exact mb_13
                · obtain rfl : k = 14 := by omega
                  obtain rfl : mt_14 = t := Option.some.inj h
                  exact mb_14
              · by_cases h15_17 : k < 16
                · obtain rfl : k = 15 := by omega
                  obtain rfl : mt_15 = t := Option.some.inj h
                  exact mb_15
                · obtain rfl : k = 16 := by omega
                  obtain rfl : mt_16 = t := Option.some.inj h
                  exact mb_16
        · by_cases h17_34 : k < 26
          · by_cases h17_26 : k < 22
            · by_cases h17_22 : k < 20
              · by_cases h17_20 : k < 19
                · by_cases h17_19 : k < 18
                  · obtain rfl : k = 17 := by omega
                    obtain rfl : mt_17 = t := Option.some.inj h
                    exact mb_17
                  · obtain rfl : k = 18 := by omega
                    obtain rfl : mt_18 = t := Option.some.inj h
                    exact mb_18
                · obtain rfl : k = 19 := by omega
                  obtain rfl : mt_19 = t := Option.some.inj h
                  exact mb_19
              · by_cases h20_22 : k < 21
                · obtain rfl : k = 20 := by omega
                  obtain rfl : mt_20 = t := Option.some.inj h
                  exact mb_20
                · obtain rfl : k = 21 := by omega
                  obtain rfl : mt_21 = t := Option.some.inj h
                  exact mb_21
            · by_cases h22_26 : k < 24
              · by_cases h22_24 : k < 23
                · obtain rfl : k = 22 := by omega
                  obtain rfl : mt_22 = t := Option.some.inj h
                  exact mb_22
                · obtain rfl : k = 23 := by omega
                  obtain rfl : mt_23 = t := Option.some.inj h
                  exact mb_23
              · by_cases h24_26 : k < 25
                · obtain rfl : k = 24 := by omega
                  obtain rfl : mt_24 = t := Option.some.inj h
                  exact mb_24
                · obtain rfl : k = 25 := by omega
                  obtain rfl : mt_25 = t := Option.some.inj h
                  exact mb_25
          · by_cases h26_34 : k < 30
            · by_cases h26_30 : k < 28
              · by_cases h26_28 : k < 27
                · obtain rfl : k = 26 := by omega
                  obtain rfl : mt_26 = t := Option.some.inj h
                  exact mb_26
                · obtain rfl : k = 27 := by omega
                  obtain rfl : mt_27 = t := Option.some.inj h
                  exact mb_27
              · by_cases h28_30 : k < 29
                · obtain rfl : k = 28 := by omega
                  obtain rfl : mt_28 = t := Option.some.inj h
                  exact mb_28
                · obtain rfl : k = 29 := by omega
                  obtain rfl : mt_29 = t := Option.some.inj h
                  exact mb_29
            · by_cases h30_34 : k < 32
              · by_cases h30_32 : k < 31
                · obtain rfl : k = 30 := by omega
                  obtain rfl : mt_30 = t := Option.some.inj h
                  exact mb_30
                · obtain rfl : k = 31 := by omega
                  obtain rfl : mt_31 = t := Option.some.inj h
                  exact mb_31
              · by_cases h32_34 : k < 33
                · obtain rfl : k = 32 := by omega
                  obtain rfl : mt_32 = t := Option.some.inj h
                  exact mb_32
                · obtain rfl : k = 33 := by omega
                  obtain rfl : mt_33 = t := Option.some.inj h
                  exact mb_33
      · by_cases h34_67 : k < 51
        · by_cases h34_51 : k < 43
          · by_cases h34_43 : k < 39
            · by_cases h34_39 : k < 37
              · by_cases h34_37 : k < 36
                · by_cases h34_36 : k < 35
                  · obtain rfl : k = 34 := by omega
                    obtain rfl : mt_34 = t := Option.some.inj h
                    exact mb_34
                  · obtain rfl : k = 35 := by omega
                    obtain rfl : mt_35 = t := Option.some.inj h
                    exact mb_35
                · obtain rfl : k = 36 := by omega
                  obtain rfl : mt_36 = t := Option.some.inj h
                  exact mb_36
              · by_cases h37_39 : k < 38
                · obtain rfl : k = 37 := by omega
                  obtain rfl : mt_37 = t := Option.some.inj h
                  exact mb_37
                · obtain rfl : k = 38 := by omega
                  obtain rfl : mt_38 = t := Option.some.inj h
                  exact mb_38
            · by_cases h39_43 : k < 41
              · by_cases h39_41 : k < 40
                · obtain rfl : k = 39 := by omega
                  obtain rfl : mt_39 = t := Option.some.inj h
                  exact mb_39
                · obtain rfl : k = 40 := by omega
                  obtain rfl : mt_40 = t := Option.some.inj h
                  exact mb_40
              · by_cases h41_43 : k < 42
                · obtain rfl : k = 41 := by omega
                  obtain rfl : mt_41 = t := Option.some.inj h
                  exact mb_41
                · obtain rfl : k = 42 := by omega
                  obtain rfl : mt_42 = t := Option.some.inj h
                  exact mb_42
          · by_cases h43_51 : k < 47
            · by_cases h43_47 : k < 45
              · by_cases h43_45 : k < 44
                · obtain rfl : k = 43 := by omega
                  obtain rfl : mt_43 = t := Option.some.inj h
                  exact mb_43
                · obtain rfl : k = 44 := by omega
                  obtain rfl : mt_44 = t := Option.some.inj h
                  exact mb_44
              · by_cases h45_47 : k < 46
                · obtain rfl : k = 45 := by omega
                  obtain rfl : mt_45 = t := Option.some.inj h
                  exact mb_45
                · obtain rfl : k = 46 := by omega
                  obtain rfl : mt_46 = t := Option.some.inj h
                  exact mb_46
            · by_cases h47_51 : k < 49
              · by_cases h47_49 : k < 48
                · obtain rfl : k = 47 := by omega
                  obtain rfl : mt_47 = t := Option.some.inj h
                  exact mb_47
                · obtain rfl : k = 48 := by omega
                  obtain rfl : mt_48 = t := Option.some.inj h
                  exact mb_48
              · by_cases h49_51 : k < 50
                · obtain rfl : k = 49 := by omega
                  obtain rfl : mt_49 = t := Option.some.inj h
                  exact mb_49
                · obtain rfl : k = 50 := by omega
                  obtain rfl : mt_50 = t := Option.some.inj h
                  exact mb_50
        · by_cases h51_67 : k < 59
          · by_cases h51_59 : k < 55
            · by_cases h51_55 : k < 53
              · by_cases h51_53 : k < 52
                · obtain rfl : k = 51 := by omega
                  obtain rfl : mt_51 = t := Option.some.inj h
                  exact mb_51
                · obtain rfl : k = 52 := by omega
                  obtain rfl : mt_52 = t := Option.some.inj h
                  exact mb_52
              · by_cases h53_55 : k < 54
                · obtain rfl : k = 53 := by omega
                  obtain rfl : mt_53 = t := Option.some.inj h
                  exact mb_53
                · obtain rfl : k = 54 := by omega
                  obtain rfl : mt_54 = t := Option.some.inj h
                  exact mb_54
            · by_cases h55_59 : k < 57
              · by_cases h55_57 : k < 56
                · obtain rfl : k = 55 := by omega
                  obtain rfl : mt_55 = t := Option.some.inj h
                  exact mb_55
                · obtain rfl : k = 56 := by omega
                  obtain rfl : mt_56 = t := Option.some.inj h
                  exact mb_56
              · by_cases h57_59 : k < 58
                · obtain rfl : k = 57 := by omega
                  obtain rfl : mt_57 = t := Option.some.inj h
                  exact mb_57
                · obtain rfl : k = 58 := by omega
                  obtain rfl : mt_58 = t := Option.some.inj h
                  exact mb_58
          · by_cases h59_67 : k < 63
            · by_cases h59_63 : k < 61
              · by_cases h59_61 : k < 60
                · obtain rfl : k = 59 := by omega
                  obtain rfl : mt_59 = t := Option.some.inj h
                  exact mb_59
                · obtain rfl : k = 60 := by omega
                  obtain rfl : mt_60 = t := Option.some.inj h
                  exact mb_60
              · by_cases h61_63 : k < 62
                · obtain rfl : k = 61 := by omega
                  obtain rfl : mt_61 = t := Option.some.inj h
                  exact mb_61
                · obtain rfl : k = 62 := by omega
                  obtain rfl : mt_62 = t := Option.some.inj h
                  exact mb_62
            · by_cases h63_67 : k < 65
              · by_cases h63_65 : k < 64
                · obtain rfl : k = 63 := by omega
                  obtain rfl : mt_63 = t := Option.some.inj h
                  exact mb_63
                · obtain rfl : k = 64 := by omega
                  obtain rfl : mt_64 = t := Option.some.inj h
                  exact mb_64
              · by_cases h65_67 : k < 66
                · obtain rfl : k = 65 := by omega
                  obtain rfl : mt_65 = t := Option.some.inj h
                  exact mb_65
                · obtain rfl : k = 66 := by omega
                  obtain rfl : mt_66 = t := Option.some.inj h
                  exact mb_66
    · by_cases h67_133 : k < 100
      · by_cases h67_100 : k < 84
        · by_cases h67_84 : k < 76
          · by_cases h67_76 : k < 72
            · by_cases h67_72 : k < 70
              · by_cases h67_70 : k < 69
                · by_cases h67_69 : k < 68
                  · obtain rfl : k = 67 := by omega
                    obtain rfl : mt_67 = t := Option.some.inj h
                    exact mb_67
                  · obtain rfl : k = 68 := by omega
                    obtain rfl : mt_68 = t := Option.some.inj h
                    exact mb_68
                · obtain rfl : k = 69 := by omega
                  obtain rfl : mt_69 = t := Option.some.inj h
                  exact mb_69
              · by_cases h70_72 : k < 71
                · obtain rfl : k = 70 := by omega
                  obtain rfl : mt_70 = t := Option.some.inj h
                  exact mb_70
                · obtain rfl : k = 71 := by omega
                  obtain rfl : mt_71 = t := Option.some.inj h
                  exact mb_71
            · by_cases h72_76 : k < 74
              · by_cases h72_74 : k < 73
                · obtain rfl : k = 72 := by omega
                  obtain rfl : mt_72 = t := Option.some.inj h
                  exact mb_72
                · obtain rfl : k = 73 := by omega
                  obtain rfl : mt_73 = t := Option.some.inj h
                  exact mb_73
              · by_cases h74_76 : k < 75
                · obtain rfl : k = 74 := by omega
                  obtain rfl : mt_74 = t := Option.some.inj h
                  exact mb_74
                · obtain rfl : k = 75 := by omega
                  obtain rfl : mt_75 = t := Option.some.inj h
                  exact mb_75
          · by_cases h76_84 : k < 80
            · by_cases h76_80 : k < 78
              · by_cases h76_78 : k < 77
                · obtain rfl : k = 76 := by omega
                  obtain rfl : mt_76 = t := Option.some.inj h
                  exact mb_76
                · obtain rfl : k = 77 := by omega
                  obtain rfl : mt_77 = t := Option.some.inj h
                  exact mb_77
              · by_cases h78_80 : k < 79
                · obtain rfl : k = 78 := by omega
                  obtain rfl : mt_78 = t := Option.some.inj h
                  exact mb_78
                · obtain rfl : k = 79 := by omega
                  obtain rfl : mt_79 = t := Option.some.inj h
                  exact mb_79
            · by_cases h80_84 : k < 82
              · by_cases h80_82 : k < 81
                · obtain rfl : k = 80 := by omega
                  obtain rfl : mt_80 = t := Option.some.inj h
                  exact mb_80
                · obtain rfl : k = 81 := by omega
                  obtain rfl : mt_81 = t := Option.some.inj h
                  exact mb_81
              · by_cases h82_84 : k < 83
                · obtain rfl : k = 82 := by omega
                  obtain rfl : mt_82 = t := Option.some.inj h
                  exact mb_82
                · obtain rfl : k = 83 := by omega
                  obtain rfl : mt_83 = t := Option.some.inj h
                  exact mb_83
        · by_cases h84_100 : k < 92
          · by_cases h84_92 : k < 88
            · by_cases h84_88 : k < 86
              · by_cases h84_86 : k < 85
                · obtain rfl : k = 84 := by omega
                  obtain rfl : mt_84 = t := Option.some.inj h
                  exact mb_84
                · obtain rfl : k = 85 := by omega
                  obtain rfl : mt_85 = t := Option.some.inj h
                  exact mb_85
              · by_cases h86_88 : k < 87
                · obtain rfl : k = 86 := by omega
                  obtain rfl : mt_86 = t := Option.some.inj h
                  exact mb_86
                · obtain rfl : k = 87 := by omega
                  obtain rfl : mt_87 = t := Option.some.inj h
                  exact mb_87
            · by_cases h88_92 : k < 90
              · by_cases h88_90 : k < 89
                · obtain rfl : k = 88 := by omega
                  obtain rfl : mt_88 = t := Option.some.inj h
                  exact mb_88
                · obtain rfl : k = 89 := by omega
                  obtain rfl : mt_89 = t := Option.some.inj h
                  exact mb_89
              · by_cases h90_92 : k < 91
                · obtain rfl : k = 90 := by omega
                  obtain rfl : mt_90 = t := Option.some.inj h
                  exact mb_90
                · obtain rfl : k = 91 := by omega
                  obtain rfl : mt_91 = t := Option.some.inj h
                  exact mb_91
          · by_cases h92_100 : k < 96
            · by_cases h92_96 : k < 94
              · by_cases h92_94 : k < 93
                · obtain rfl : k = 92 := by omega
                  obtain rfl : mt_92 = t := Option.some.inj h
                  exact mb_92
                · obtain rfl : k = 93 := by omega
                  obtain rfl : mt_93 = t := Option.some.inj h
                  exact mb_93
              · by_cases h94_96 : k < 95
                · obtain rfl : k = 94 := by omega
                  obtain rfl : mt_94 = t := Option.some.inj h
                  exact mb_94
                · obtain rfl : k = 95 := by omega
                  obtain rfl : mt_95 = t := Option.some.inj h
                  exact mb_95
            · by_cases h96_100 : k < 98
              · by_cases h96_98 : k < 97
                · obtain rfl : k = 96 := by omega
                  obtain rfl : mt_96 = t := Option.some.inj h
                  exact mb_96
                · obtain rfl : k = 97 := by omega
                  obtain rfl : mt_97 = t := Option.some.inj h
                  exact mb_97
              · by_cases h98_100 : k < 99
                · obtain rfl : k = 98 := by omega
                  obtain rfl : mt_98 = t := Option.some.inj h
                  exact mb_98
                · obtain rfl : k = 99 := by omega
                  obtain rfl : mt_99 = t := Option.some.inj h
                  exact mb_99
      · by_cases h100_133 : k < 117
        · by_cases h100_117 : k < 109
          · by_cases h100_109 : k < 105
            · by_cases h100_105 : k < 103
              · by_cases h100_103 : k < 102
                · by_cases h100_102 : k < 101
                  · obtain rfl : k = 100 := by omega
                    obtain rfl : mt_100 = t := Option.some.inj h
                    exact mb_100
                  · obtain rfl : k = 101 := by omega
                    obtain rfl : mt_101 = t := Option.some.inj h
                    exact mb_101
                · obtain rfl : k = 102 := by omega
                  obtain rfl : mt_102 = t := Option.some.inj h
                  exact mb_102
              · by_cases h103_105 : k < 104
                · obtain rfl : k = 103 := by omega
                  obtain rfl : mt_103 = t := Option.some.inj h
                  exact mb_103
                · obtain rfl : k = 104 := by omega
                  obtain rfl : mt_104 = t := Option.some.inj h
                  exact mb_104
            · by_cases h105_109 : k < 107
              · by_cases h105_107 : k < 106
                · obtain rfl : k = 105 := by omega
                  obtain rfl : mt_105 = t := Option.some.inj h
                  exact mb_105
                · obtain rfl : k = 106 := by omega
                  obtain rfl : mt_106 = t := Option.some.inj h
                  exact mb_106
              · by_cases h107_109 : k < 108
                · obtain rfl : k = 107 := by omega
                  obtain rfl : mt_107 = t := Option.some.inj h
                  exact mb_107
                · obtain rfl : k = 108 := by omega
                  obtain rfl : mt_108 = t := Option.some.inj h
                  exact mb_108
          · by_cases h109_117 : k < 113
            · by_cases h109_113 : k < 111
              · by_cases h109_111 : k < 110
                · obtain rfl : k = 109 := by omega
                  obtain rfl : mt_109 = t := Option.some.inj h
                  exact mb_109
                · obtain rfl : k = 110 := by omega
                  obtain rfl : mt_110 = t := Option.some.inj h
                  exact mb_110
              · by_cases h111_113 : k < 112
                · obtain rfl : k = 111 := by omega
                  obtain rfl : mt_111 = t := Option.some.inj h
                  exact mb_111
                · obtain rfl : k = 112 := by omega
                  obtain rfl : mt_112 = t := Option.some.inj h
                  exact mb_112
            · by_cases h113_117 : k < 115
              · by_cases h113_115 : k < 114
                · obtain rfl : k = 113 := by omega
                  obtain rfl : mt_113 = t := Option.some.inj h
                  exact mb_113
                · obtain rfl : k = 114 := by omega
                  obtain rfl : mt_114 = t := Option.some.inj h
                  exact mb_114
              · by_cases h115_117 : k < 116
                · obtain rfl : k = 115 := by omega
                  obtain rfl : mt_115 = t := Option.some.inj h
                  exact mb_115
                · obtain rfl : k = 116 := by omega
                  obtain rfl : mt_116 = t := Option.some.inj h
                  exact mb_116
        · by_cases h117_133 : k < 125
          · by_cases h117_125 : k < 121
            · by_cases h117_121 : k < 119
              · by_cases h117_119 : k < 118
                · obtain rfl : k = 117 := by omega
                  obtain rfl : mt_117 = t := Option.some.inj h
                  exact mb_117
                · obtain rfl : k = 118 := by omega
                  obtain rfl : mt_118 = t := Option.some.inj h
                  exact mb_118
              · by_cases h119_121 : k < 120
                · obtain rfl : k = 119 := by omega
                  obtain rfl : mt_119 = t := Option.some.inj h
                  exact mb_119
                · obtain rfl : k = 120 := by omega
                  obtain rfl : mt_120 = t := Option.some.inj h
                  exact mb_120
            · by_cases h121_125 : k < 123
              · by_cases h121_123 : k < 122
                · obtain rfl : k = 121 := by omega
                  obtain rfl : mt_121 = t := Option.some.inj h
                  exact mb_121
                · obtain rfl : k = 122 := by omega
                  obtain rfl : mt_122 = t := Option.some.inj h
                  exact mb_122
              · by_cases h123_125 : k < 124
                · obtain rfl : k = 123 := by omega
                  obtain rfl : mt_123 = t := Option.some.inj h
                  exact mb_123
                · obtain rfl : k = 124 := by omega
                  obtain rfl : mt_124 = t := Option.some.inj h
                  exact mb_124
          · by_cases h125_133 : k < 129
            · by_cases h125_129 : k < 127
              · by_cases h125_127 : k < 126
                · obtain rfl : k = 125 := by omega
                  obtain rfl : mt_125 = t := Option.some.inj h
                  exact mb_125
                · obtain rfl : k = 126 := by omega
                  obtain rfl : mt_126 = t := Option.some.inj h
                  exact mb_126
              · by_cases h127_129 : k < 128
                · obtain rfl : k = 127 := by omega
                  obtain rfl : mt_127 = t := Option.some.inj h
                  exact mb_127
                · obtain rfl : k = 128 := by omega
                  obtain rfl : mt_128 = t := Option.some.inj h
                  exact mb_128
            · by_cases h129_133 : k < 131
              · by_cases h129_131 : k < 130
                · obtain rfl : k = 129 := by omega
                  obtain rfl : mt_129 = t := Option.some.inj h
                  exact mb_129
                · obtain rfl : k = 130 := by omega
                  obtain rfl : mt_130 = t := Option.some.inj h
                  exact mb_130
              · by_cases h131_133 : k < 132
                · obtain rfl : k = 131 := by omega
                  obtain rfl : mt_131 = t := Option.some.inj h
                  exact mb_131
                · obtain rfl : k = 132 := by omega
                  obtain rfl : mt_132 = t := Option.some.inj h
                  exact mb_132
  · by_cases h133_265 : k < 199
    · by_cases h133_199 : k < 166
      · by_cases h133_166 : k < 150
        · by_cases h133_150 : k < 142
          · by_cases h133_142 : k < 138
            · by_cases h133_138 : k < 136
              · by_cases h133_136 : k < 135
                · by_cases h133_135 : k < 134
                  · obtain rfl : k = 133 := by omega
                    obtain rfl : mt_133 = t := Option.some.inj h
                    exact mb_133
                  · obtain rfl : k = 134 := by omega
                    obtain rfl : mt_134 = t := Option.some.inj h
                    exact mb_134
                · obtain rfl : k = 135 := by omega
                  obtain rfl : mt_135 = t := Option.some.inj h
                  exact mb_135
              · by_cases h136_138 : k < 137
                · obtain rfl : k = 136 := by omega
                  obtain rfl : mt_136 = t := Option.some.inj h
                  exact mb_136
                · obtain rfl : k = 137 := by omega
                  obtain rfl : mt_137 = t := Option.some.inj h
                  exact mb_137
            · by_cases h138_142 : k < 140
              · by_cases h138_140 : k < 139
                · obtain rfl : k = 138 := by omega
                  obtain rfl : mt_138 = t := Option.some.inj h
                  exact mb_138
                · obtain rfl : k = 139 := by omega
                  obtain rfl : mt_139 = t := Option.some.inj h
                  exact mb_139
              · by_cases h140_142 : k < 141
                · obtain rfl : k = 140 := by omega
                  obtain rfl : mt_140 = t := Option.some.inj h
                  exact mb_140
                · obtain rfl : k = 141 := by omega
                  obtain rfl : mt_141 = t := Option.some.inj h
                  exact mb_141
          · by_cases h142_150 : k < 146
            · by_cases h142_146 : k < 144
              · by_cases h142_144 : k < 143
                · obtain rfl : k = 142 := by omega
                  obtain rfl : mt_142 = t := Option.some.inj h
                  exact mb_142
                · obtain rfl : k = 143 := by omega
                  obtain rfl : mt_143 = t := Option.some.inj h
                  exact mb_143
              · by_cases h144_146 : k < 145
                · obtain rfl : k = 144 := by omega
                  obtain rfl : mt_144 = t := Option.some.inj h
                  exact mb_144
                · obtain rfl : k = 145 := by omega
                  obtain rfl : mt_145 = t := Option.some.inj h
                  exact mb_145
            · by_cases h146_150 : k < 148
              · by_cases h146_148 : k < 147
                · obtain rfl : k = 146 := by omega
                  obtain rfl : mt_146 = t := Option.some.inj h
                  exact mb_146
                · obtain rfl : k = 147 := by omega
                  obtain rfl : mt_147 = t := Option.some.inj h
                  exact mb_147
              · by_cases h148_150 : k < 149
                · obtain rfl : k = 148 := by omega
                  obtain rfl : mt_148 = t := Option.some.inj h
                  exact mb_148
                · obtain rfl : k = 149 := by omega
                  obtain rfl : mt_149 = t := Option.some.inj h
                  exact mb_149
        · by_cases h150_166 : k < 158
          · by_cases h150_158 : k < 154
            · by_cases h150_154 : k < 152
              · by_cases h150_152 : k < 151
                · obtain rfl : k = 150 := by omega
                  obtain rfl : mt_150 = t := Option.some.inj h
                  exact mb_150
                · obtain rfl : k = 151 := by omega
                  obtain rfl : mt_151 = t := Option.some.inj h
                  exact mb_151
              · by_cases h152_154 : k < 153
                · obtain rfl : k = 152 := by omega
                  obtain rfl : mt_152 = t := Option.some.inj h
                  exact mb_152
                · obtain rfl : k = 153 := by omega
                  obtain rfl : mt_153 = t := Option.some.inj h
                  exact mb_153
            · by_cases h154_158 : k < 156
              · by_cases h154_156 : k < 155
                · obtain rfl : k = 154 := by omega
                  obtain rfl : mt_154 = t := Option.some.inj h
                  exact mb_154
                · obtain rfl : k = 155 := by omega
                  obtain rfl : mt_155 = t := Option.some.inj h
                  exact mb_155
              · by_cases h156_158 : k < 157
                · obtain rfl : k = 156 := by omega
                  obtain rfl : mt_156 = t := Option.some.inj h
                  exact mb_156
                · obtain rfl : k = 157 := by omega
                  obtain rfl : mt_157 = t := Option.some.inj h
                  exact mb_157
          · by_cases h158_166 : k < 162
            · by_cases h158_162 : k < 160
              · by_cases h158_160 : k < 159
                · obtain rfl : k = 158 := by omega
                  obtain rfl : mt_158 = t := Option.some.inj h
                  exact mb_158
                · obtain rfl : k = 159 := by omega
                  obtain rfl : mt_159 = t := Option.some.inj h
                  exact mb_159
              · by_cases h160_162 : k < 161
                · obtain rfl : k = 160 := by omega
                  obtain rfl : mt_160 = t := Option.some.inj h
                  exact mb_160
                · obtain rfl : k = 161 := by omega
                  obtain rfl : mt_161 = t := Option.some.inj h
                  exact mb_161
            · by_cases h162_166 : k < 164
              · by_cases h162_164 : k < 163
                · obtain rfl : k = 162 := by omega
                  obtain rfl : mt_162 = t := Option.some.inj h
                  exact mb_162
                · obtain rfl : k = 163 := by omega
                  obtain rfl : mt_163 = t := Option.some.inj h
                  exact mb_163
              · by_cases h164_166 : k < 165
                · obtain rfl : k = 164 := by omega
                  obtain rfl : mt_164 = t := Option.some.inj h
                  exact mb_164
                · obtain rfl : k = 165 := by omega
                  obtain rfl : mt_165 = t := Option.some.inj h
                  exact mb_165
      · by_cases h166_199 : k < 183
        · by_cases h166_183 : k < 175
          · by_cases h166_175 : k < 171
            · by_cases h166_171 : k < 169
              · by_cases h166_169 : k < 168
                · by_cases h166_168 : k < 167
                  · obtain rfl : k = 166 := by omega
                    obtain rfl : mt_166 = t := Option.some.inj h
                    exact mb_166
                  · obtain rfl : k = 167 := by omega
                    obtain rfl : mt_167 = t := Option.some.inj h
                    exact mb_167
                · obtain rfl : k = 168 := by omega
                  obtain rfl : mt_168 = t := Option.some.inj h
                  exact mb_168
              · by_cases h169_171 : k < 170
                · obtain rfl : k = 169 := by omega
                  obtain rfl : mt_169 = t := Option.some.inj h
                  exact mb_169
                · obtain rfl : k = 170 := by omega
                  obtain rfl : mt_170 = t := Option.some.inj h
                  exact mb_170
            · by_cases h171_175 : k < 173
              · by_cases h171_173 : k < 172
                · obtain rfl : k = 171 := by omega
                  obtain rfl : mt_171 = t := Option.some.inj h
                  exact mb_171
                · obtain rfl : k = 172 := by omega
                  obtain rfl : mt_172 = t := Option.some.inj h
                  exact mb_172
              · by_cases h173_175 : k < 174
                · obtain rfl : k = 173 := by omega
                  obtain rfl : mt_173 = t := Option.some.inj h
                  exact mb_173
                · obtain rfl : k = 174 := by omega
                  obtain rfl : mt_174 = t := Option.some.inj h
                  exact mb_174
          · by_cases h175_183 : k < 179
            · by_cases h175_179 : k < 177
              · by_cases h175_177 : k < 176
                · obtain rfl : k = 175 := by omega
                  obtain rfl : mt_175 = t := Option.some.inj h
                  exact mb_175
                · obtain rfl : k = 176 := by omega
                  obtain rfl : mt_176 = t := Option.some.inj h
                  exact mb_176
              · by_cases h177_179 : k < 178
                · obtain rfl : k = 177 := by omega
                  obtain rfl : mt_177 = t := Option.some.inj h
                  exact mb_177
                · obtain rfl : k = 178 := by omega
                  obtain rfl : mt_178 = t := Option.some.inj h
                  exact mb_178
            · by_cases h179_183 : k < 181
              · by_cases h179_181 : k < 180
                · obtain rfl : k = 179 := by omega
                  obtain rfl : mt_179 = t := Option.some.inj h
                  exact mb_179
                · obtain rfl : k = 180 := by omega
                  obtain rfl : mt_180 = t := Option.some.inj h
                  exact mb_180
              · by_cases h181_183 : k < 182
                · obtain rfl : k = 181 := by omega
                  obtain rfl : mt_181 = t := Option.some.inj h
                  exact mb_181
                · obtain rfl : k = 182 := by omega
                  obtain rfl : mt_182 = t := Option.some.inj h
                  exact mb_182
        · by_cases h183_199 : k < 191
          · by_cases h183_191 : k < 187
            · by_cases h183_187 : k < 185
              · by_cases h183_185 : k < 184
                · obtain rfl : k = 183 := by omega
                  obtain rfl : mt_183 = t := Option.some.inj h
                  exact mb_183
                · obtain rfl : k = 184 := by omega
                  obtain rfl : mt_184 = t := Option.some.inj h
                  exact mb_184
              · by_cases h185_187 : k < 186
                · obtain rfl : k = 185 := by omega
                  obtain rfl : mt_185 = t := Option.some.inj h
                  exact mb_185
                · obtain rfl : k = 186 := by omega
                  obtain rfl : mt_186 = t := Option.some.inj h
                  exact mb_186
            · by_cases h187_191 : k < 189
              · by_cases h187_189 : k < 188
                · obtain rfl : k = 187 := by omega
                  obtain rfl : mt_187 = t := Option.some.inj h
                  exact mb_187
                · obtain rfl : k = 188 := by omega
                  obtain rfl : mt_188 = t := Option.some.inj h
                  exact mb_188
              · by_cases h189_191 : k < 190
                · obtain rfl : k = 189 := by omega
                  obtain rfl : mt_189 = t := Option.some.inj h
                  exact mb_189
                · obtain rfl : k = 190 := by omega
                  obtain rfl : mt_190 = t := Option.some.inj h
                  exact mb_190
          · by_cases h191_199 : k < 195
            · by_cases h191_195 : k < 193
              · by_cases h191_193 : k < 192
                · obtain rfl : k = 191 := by omega
                  obtain rfl : mt_191 = t := Option.some.inj h
                  exact mb_191
                · obtain rfl : k = 192 := by omega
                  obtain rfl : mt_192 = t := Option.some.inj h
                  exact mb_192
              · by_cases h193_195 : k < 194
                · obtain rfl : k = 193 := by omega
                  obtain rfl : mt_193 = t := Option.some.inj h
                  exact mb_193
                · obtain rfl : k = 194 := by omega
                  obtain rfl : mt_194 = t := Option.some.inj h
                  exact mb_194
            · by_cases h195_199 : k < 197
              · by_cases h195_197 : k < 196
                · obtain rfl : k = 195 := by omega
                  obtain rfl : mt_195 = t := Option.some.inj h
                  exact mb_195
                · obtain rfl : k = 196 := by omega
                  obtain rfl : mt_196 = t := Option.some.inj h
                  exact mb_196
              · by_cases h197_199 : k < 198
                · obtain rfl : k = 197 := by omega
                  obtain rfl : mt_197 = t := Option.some.inj h
                  exact mb_197
                · obtain rfl : k = 198 := by omega
                  obtain rfl : mt_198 = t := Option.some.inj h
                  exact mb_198
    · by_cases h199_265 : k < 232
      · by_cases h199_232 : k < 216
        · by_cases h199_216 : k < 208
          · by_cases h199_208 : k < 204
            · by_cases h199_204 : k < 202
              · by_cases h199_202 : k < 201
                · by_cases h199_201 : k < 200
                  · obtain rfl : k = 199 := by omega
                    obtain rfl : mt_199 = t := Option.some.inj h
                    exact mb_199
                  · obtain rfl : k = 200 := by omega
                    obtain rfl : mt_200 = t := Option.some.inj h
                    exact mb_200
                · obtain rfl : k = 201 := by omega
                  obtain rfl : mt_201 = t := Option.some.inj h
                  exact mb_201
              · by_cases h202_204 : k < 203
                · obtain rfl : k = 202 := by omega
                  obtain rfl : mt_202 = t := Option.some.inj h
                  exact mb_202
                · obtain rfl : k = 203 := by omega
                  obtain rfl : mt_203 = t := Option.some.inj h
                  exact mb_203
            · by_cases h204_208 : k < 206
              · by_cases h204_206 : k < 205
                · obtain rfl : k = 204 := by omega
                  obtain rfl : mt_204 = t := Option.some.inj h
                  exact mb_204
                · obtain rfl : k = 205 := by omega
                  obtain rfl : mt_205 = t := Option.some.inj h
                  exact mb_205
              · by_cases h206_208 : k < 207
                · obtain rfl : k = 206 := by omega
                  obtain rfl : mt_206 = t := Option.some.inj h
                  exact mb_206
                · obtain rfl : k = 207 := by omega
                  obtain rfl : mt_207 = t := Option.some.inj h
                  exact mb_207
          · by_cases h208_216 : k < 212
            · by_cases h208_212 : k < 210
              · by_cases h208_210 : k < 209
                · obtain rfl : k = 208 := by omega
                  obtain rfl : mt_208 = t := Option.some.inj h
                  exact mb_208
                · obtain rfl : k = 209 := by omega
                  obtain rfl : mt_209 = t := Option.some.inj h
                  exact mb_209
              · by_cases h210_212 : k < 211
                · obtain rfl : k = 210 := by omega
                  obtain rfl : mt_210 = t := Option.some.inj h
                  exact mb_210
                · obtain rfl : k = 211 := by omega
                  obtain rfl : mt_211 = t := Option.some.inj h
                  exact mb_211
            · by_cases h212_216 : k < 214
              · by_cases h212_214 : k < 213
                · obtain rfl : k = 212 := by omega
                  obtain rfl : mt_212 = t := Option.some.inj h
                  exact mb_212
                · obtain rfl : k = 213 := by omega
                  obtain rfl : mt_213 = t := Option.some.inj h
                  exact mb_213
              · by_cases h214_216 : k < 215
                · obtain rfl : k = 214 := by omega
                  obtain rfl : mt_214 = t := Option.some.inj h
                  exact mb_214
                · obtain rfl : k = 215 := by omega
                  obtain rfl : mt_215 = t := Option.some.inj h
                  exact mb_215
        · by_cases h216_232 : k < 224
          · by_cases h216_224 : k < 220
            · by_cases h216_220 : k < 218
              · by_cases h216_218 : k < 217
                · obtain rfl : k = 216 := by omega
                  obtain rfl : mt_216 = t := Option.some.inj h
                  exact mb_216
                · obtain rfl : k = 217 := by omega
                  obtain rfl : mt_217 = t := Option.some.inj h
                  exact mb_217
              · by_cases h218_220 : k < 219
                · obtain rfl : k = 218 := by omega
                  obtain rfl : mt_218 = t := Option.some.inj h
                  exact mb_218
                · obtain rfl : k = 219 := by omega
                  obtain rfl : mt_219 = t := Option.some.inj h
                  exact mb_219
            · by_cases h220_224 : k < 222
              · by_cases h220_222 : k < 221
                · obtain rfl : k = 220 := by omega
                  obtain rfl : mt_220 = t := Option.some.inj h
                  exact mb_220
                · obtain rfl : k = 221 := by omega
                  obtain rfl : mt_221 = t := Option.some.inj h
                  exact mb_221
              · by_cases h222_224 : k < 223
                · obtain rfl : k = 222 := by omega
                  obtain rfl : mt_222 = t := Option.some.inj h
                  exact mb_222
                · obtain rfl : k = 223 := by omega
                  obtain rfl : mt_223 = t := Option.some.inj h
                  exact mb_223
          · by_cases h224_232 : k < 228
            · by_cases h224_228 : k < 226
              · by_cases h224_226 : k < 225
                · obtain rfl : k = 224 := by omega
                  obtain rfl : mt_224 = t := Option.some.inj h
                  exact mb_224
                · obtain rfl : k = 225 := by omega
                  obtain rfl : mt_225 = t := Option.some.inj h
                  exact mb_225
              · by_cases h226_228 : k < 227
                · obtain rfl : k = 226 := by omega
                  obtain rfl : mt_226 = t := Option.some.inj h
                  exact mb_226
                · obtain rfl : k = 227 := by omega
                  obtain rfl : mt_227 = t := Option.some.inj h
                  exact mb_227
            · by_cases h228_232 : k < 230
              · by_cases h228_230 : k < 229
                · obtain rfl : k = 228 := by omega
                  obtain rfl : mt_228 = t := Option.some.inj h
                  exact mb_228
                · obtain rfl : k = 229 := by omega
                  obtain rfl : mt_229 = t := Option.some.inj h
                  exact mb_229
              · by_cases h230_232 : k < 231
                · obtain rfl : k = 230 := by omega
                  obtain rfl : mt_230 = t := Option.some.inj h
                  exact mb_230
                · obtain rfl : k = 231 := by omega
                  obtain rfl : mt_231 = t := Option.some.inj h
                  exact mb_231
      · by_cases h232_265 : k < 249
        · by_cases h232_249 : k < 241
          · by_cases h232_241 : k < 237
            · by_cases h232_237 : k < 235
              · by_cases h232_235 : k < 234
                · by_cases h232_234 : k < 233
                  · obtain rfl : k = 232 := by omega
                    obtain rfl : mt_232 = t := Option.some.inj h
                    exact mb_232
                  · obtain rfl : k = 233 := by omega
                    obtain rfl : mt_233 = t := Option.some.inj h
                    exact mb_233
                · obtain rfl : k = 234 := by omega
                  obtain rfl : mt_234 = t := Option.some.inj h
                  exact mb_234
              · by_cases h235_237 : k < 236
                · obtain rfl : k = 235 := by omega
                  obtain rfl : mt_235 = t := Option.some.inj h
                  exact mb_235
                · obtain rfl : k = 236 := by omega
                  obtain rfl : mt_236 = t := Option.some.inj h
                  exact mb_236
            · by_cases h237_241 : k < 239
              · by_cases h237_239 : k < 238
                · obtain rfl : k = 237 := by omega
                  obtain rfl : mt_237 = t := Option.some.inj h
                  exact mb_237
                · obtain rfl : k = 238 := by omega
                  obtain rfl : mt_238 = t := Option.some.inj h
                  exact mb_238
              · by_cases h239_241 : k < 240
                · obtain rfl : k = 239 := by omega
                  obtain rfl : mt_239 = t := Option.some.inj h
                  exact mb_239
                · obtain rfl : k = 240 := by omega
                  obtain rfl : mt_240 = t := Option.some.inj h
                  exact mb_240
          · by_cases h241_249 : k < 245
            · by_cases h241_245 : k < 243
              · by_cases h241_243 : k < 242
                · obtain rfl : k = 241 := by omega
                  obtain rfl : mt_241 = t := Option.some.inj h
                  exact mb_241
                · obtain rfl : k = 242 := by omega
                  obtain rfl : mt_242 = t := Option.some.inj h
                  exact mb_242
              · by_cases h243_245 : k < 244
                · obtain rfl : k = 243 := by omega
                  obtain rfl : mt_243 = t := Option.some.inj h
                  exact mb_243
                · obtain rfl : k = 244 := by omega
                  obtain rfl : mt_244 = t := Option.some.inj h
                  exact mb_244
            · by_cases h245_249 : k < 247
              · by_cases h245_247 : k < 246
                · obtain rfl : k = 245 := by omega
                  obtain rfl : mt_245 = t := Option.some.inj h
                  exact mb_245
                · obtain rfl : k = 246 := by omega
                  obtain rfl : mt_246 = t := Option.some.inj h
                  exact mb_246
              · by_cases h247_249 : k < 248
                · obtain rfl : k = 247 := by omega
                  obtain rfl : mt_247 = t := Option.some.inj h
                  exact mb_247
                · obtain rfl : k = 248 := by omega
                  obtain rfl : mt_248 = t := Option.some.inj h
                  exact mb_248
        · by_cases h249_265 : k < 257
          · by_cases h249_257 : k < 253
            · by_cases h249_253 : k < 251
              · by_cases h249_251 : k < 250
                · obtain rfl : k = 249 := by omega
                  obtain rfl : mt_249 = t := Option.some.inj h
                  exact mb_249
                · obtain rfl : k = 250 := by omega
                  obtain rfl : mt_250 = t := Option.some.inj h
                  exact mb_250
              · by_cases h251_253 : k < 252
                · obtain rfl : k = 251 := by omega
                  obtain rfl : mt_251 = t := Option.some.inj h
                  exact mb_251
                · obtain rfl : k = 252 := by omega
                  obtain rfl : mt_252 = t := Option.some.inj h
                  exact mb_252
            · by_cases h253_257 : k < 255
              · by_cases h253_255 : k < 254
                · obtain rfl : k = 253 := by omega
                  obtain rfl : mt_253 = t := Option.some.inj h
                  exact mb_253
                · obtain rfl : k = 254 := by omega
                  obtain rfl : mt_254 = t := Option.some.inj h
                  exact mb_254
              · by_cases h255_257 : k < 256
                · obtain rfl : k = 255 := by omega
                  obtain rfl : mt_255 = t := Option.some.inj h
                  exact mb_255
                · obtain rfl : k = 256 := by omega
                  obtain rfl : mt_256 = t := Option.some.inj h
                  exact mb_256
          · by_cases h257_265 : k < 261
            · by_cases h257_261 : k < 259
              · by_cases h257_259 : k < 258
                · obtain rfl : k = 257 := by omega
                  obtain rfl : mt_257 = t := Option.some.inj h
                  exact mb_257
                · obtain rfl : k = 258 := by omega
                  obtain rfl : mt_258 = t := Option.some.inj h
                  exact mb_258
              · by_cases h259_261 : k < 260
                · obtain rfl : k = 259 := by omega
                  obtain rfl : mt_259 = t := Option.some.inj h
                  exact mb_259
                · obtain rfl : k = 260 := by omega
                  obtain rfl : mt_260 = t := Option.some.inj h
                  exact mb_260
            · by_cases h261_265 : k < 263
              · by_cases h261_263 : k < 262
                · obtain rfl : k = 261 := by omega
                  obtain rfl : mt_261 = t := Option.some.inj h
                  exact mb_261
                · obtain rfl : k = 262 := by omega
                  obtain rfl : mt_262 = t := Option.some.inj h
                  exact mb_262
              · by_cases h263_265 : k < 264
                · obtain rfl : k = 263 := by omega
                  obtain rfl : mt_263 = t := Option.some.inj h
                  exact mb_263
                · obtain rfl : k = 264 := by omega
                  obtain rfl : mt_264 = t := Option.some.inj h
                  exact mb_264
