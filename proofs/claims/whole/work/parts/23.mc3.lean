set_option maxRecDepth 20000 in
theorem c_127 : kmck mt_127 in_127 633 157 = true := by decide +kernel
set_option maxRecDepth 20000 in
theorem c_128 : kmck mt_128 in_128 676 157 = true := by decide +kernel
set_option maxRecDepth 20000 in
theorem c_129 : kmck mt_129 in_129 703 157 = true := by decide +kernel
set_option maxRecDepth 20000 in
theorem c_130 : kmck mt_130 in_130 726 157 = true := by decide +kernel
set_option maxRecDepth 20000 in
theorem c_131 : kmck mt_131 in_131 735 157 = true := by decide +kernel
set_option maxRecDepth 20000 in
theorem c_132 : kmck mt_132 in_132 739 157 = true := by decide +kernel
set_option maxRecDepth 20000 in
theorem c_133 : kmck mt_133 in_133 746 157 = true := by decide +kernel
set_option maxRecDepth 20000 in
theorem c_134 : kmck mt_134 in_134 753 157 = true := by decide +kernel
set_option maxRecDepth 20000 in
theorem c_135 : kmck mt_135 in_135 764 157 = true := by decide +kernel
set_option maxRecDepth 20000 in
theorem c_136 : kmck mt_136 in_136 768 157 = true := by decide +kernel
set_option maxRecDepth 20000 in
theorem c_137 : kmck mt_137 in_137 777 157 = true := by decide +kernel
set_option maxRecDepth 20000 in
theorem c_138 : kmck mt_138 in_138 1000 157 = true := by decide +kernel
set_option maxRecDepth 20000 in
theorem c_139 : kmck mt_139 in_139 1027 157 = true := by decide +kernel
set_option maxRecDepth 20000 in
theorem c_140 : kmck mt_140 in_140 1160 157 = true := by decide +kernel
set_option maxRecDepth 20000 in
theorem c_141 : kmck mt_141 in_141 1674 157 = true := by decide +kernel
set_option maxRecDepth 20000 in
theorem c_142 : kmck mt_142 in_142 1168 157 = true := by decide +kernel
set_option maxRecDepth 20000 in
theorem c_143 : kmck mt_143 in_143 1182 157 = true := by decide +kernel
set_option maxRecDepth 20000 in
theorem c_144 : kmck mt_144 in_144 1186 157 = true := by decide +kernel
set_option maxRecDepth 20000 in
theorem c_145 : kmck mt_145 in_145 1194 157 = true := by decide +kernel
set_option maxRecDepth 20000 in
theorem c_146 : kmck mt_146 in_146 1209 157 = true := by decide +kernel
set_option maxRecDepth 20000 in
theorem c_147 : kmck mt_147 in_147 1229 157 = true := by decide +kernel
set_option maxRecDepth 20000 in
theorem c_148 : kmck mt_148 in_148 1245 157 = true := by decide +kernel
set_option maxRecDepth 20000 in
theorem c_149 : kmck mt_149 in_149 1249 157 = true := by decide +kernel
set_option maxRecDepth 20000 in
theorem c_150 : kmck mt_150 in_150 1257 157 = true := by decide +kernel
set_option maxRecDepth 20000 in
theorem c_151 : kmck mt_151 in_151 1261 157 = true := by decide +kernel
set_option maxRecDepth 20000 in
theorem c_152 : kmck mt_152 in_152 1273 157 = true := by decide +kernel
set_option maxRecDepth 20000 in
theorem c_153 : kmck mt_153 in_153 1282 157 = true := by decide +kernel
set_option maxRecDepth 20000 in
theorem c_154 : kmck mt_154 in_154 1752 157 = true := by decide +kernel
set_option maxRecDepth 20000 in
theorem c_155 : kmck mt_155 in_155 1770 157 = true := by decide +kernel
set_option maxRecDepth 20000 in
theorem c_156 : kmck mt_156 in_156 1290 157 = true := by decide +kernel
set_option maxRecDepth 20000 in
theorem c_157 : kmck mt_157 in_157 1298 157 = true := by decide +kernel
set_option maxRecDepth 20000 in
theorem c_158 : kmck mt_158 in_158 1391 157 = true := by decide +kernel
set_option maxRecDepth 20000 in
theorem c_159 : kmck mt_159 in_159 1400 157 = true := by decide +kernel
set_option maxRecDepth 20000 in
theorem c_160 : kmck mt_160 in_160 1437 157 = true := by decide +kernel
set_option maxRecDepth 20000 in
theorem c_161 : kmck mt_161 in_161 1446 157 = true := by decide +kernel
set_option maxRecDepth 20000 in
theorem c_162 : kmck mt_162 in_162 1477 157 = true := by decide +kernel
set_option maxRecDepth 20000 in
theorem c_163 : kmck mt_163 in_163 1485 157 = true := by decide +kernel
set_option maxRecDepth 20000 in
theorem c_164 : kmck mt_164 in_164 1505 157 = true := by decide +kernel
set_option maxRecDepth 20000 in
theorem c_165 : kmck mt_165 in_165 1514 157 = true := by decide +kernel
set_option maxRecDepth 20000 in
theorem c_166 : kmck mt_166 in_166 1518 157 = true := by decide +kernel
set_option maxRecDepth 20000 in
theorem c_167 : kmck mt_167 in_167 1527 157 = true := by decide +kernel
set_option maxRecDepth 20000 in
theorem c_168 : kmck mt_168 in_168 1531 157 = true := by decide +kernel
set_option maxRecDepth 20000 in
theorem c_169 : kmck mt_169 in_169 1535 157 = true := by decide +kernel
set_option maxRecDepth 20000 in
theorem c_170 : kmck mt_170 in_170 1539 157 = true := by decide +kernel
set_option maxRecDepth 20000 in
theorem c_171 : kmck mt_171 in_171 1551 157 = true := by decide +kernel
set_option maxRecDepth 20000 in
theorem c_172 : kmck mt_172 in_172 1571 157 = true := by decide +kernel
set_option maxRecDepth 20000 in
theorem c_173 : kmck mt_173 in_173 1575 157 = true := by decide +kernel
set_option maxRecDepth 20000 in
theorem c_174 : kmck mt_174 in_174 1587 157 = true := by decide +kernel
set_option maxRecDepth 20000 in
theorem c_175 : kmck mt_175 in_175 1596 157 = true := by decide +kernel
set_option maxRecDepth 20000 in
theorem c_176 : kmck mt_176 in_176 1600 157 = true := by decide +kernel
set_option maxRecDepth 20000 in
theorem c_177 : kmck mt_177 in_177 1608 157 = true := by decide +kernel
set_option maxRecDepth 20000 in
theorem c_178 : kmck mt_178 in_178 1616 157 = true := by decide +kernel
set_option maxRecDepth 20000 in
theorem c_179 : kmck mt_179 in_179 1620 157 = true := by decide +kernel
set_option maxRecDepth 20000 in
theorem c_180 : kmck mt_180 in_180 1780 157 = true := by decide +kernel
set_option maxRecDepth 20000 in
theorem c_181 : kmck mt_181 in_181 1624 157 = true := by decide +kernel
set_option maxRecDepth 20000 in
theorem c_182 : kmck mt_182 in_182 1650 157 = true := by decide +kernel
set_option maxRecDepth 20000 in
theorem c_183 : kmck mt_183 in_183 639 157 = true := by decide +kernel
set_option maxRecDepth 20000 in
theorem c_184 : kmck mt_184 in_184 636 157 = true := by decide +kernel
set_option maxRecDepth 20000 in
theorem c_185 : kmck mt_185 in_185 1090 157 = true := by decide +kernel
set_option maxRecDepth 20000 in
theorem c_186 : kmck mt_186 in_186 691 157 = true := by decide +kernel
set_option maxRecDepth 20000 in
theorem c_187 : kmck mt_187 in_187 709 157 = true := by decide +kernel
set_option maxRecDepth 20000 in
theorem c_188 : kmck mt_188 in_188 706 157 = true := by decide +kernel
set_option maxRecDepth 20000 in
theorem c_189 : kmck mt_189 in_189 742 157 = true := by decide +kernel
set_option maxRecDepth 20000 in
theorem c_190 : kmck mt_190 in_190 749 157 = true := by decide +kernel
set_option maxRecDepth 20000 in
theorem c_191 : kmck mt_191 in_191 756 157 = true := by decide +kernel
set_option maxRecDepth 20000 in
theorem c_192 : kmck mt_192 in_192 688 157 = true := by decide +kernel
set_option maxRecDepth 20000 in
theorem c_193 : kmck mt_193 in_193 684 157 = true := by decide +kernel
set_option maxRecDepth 20000 in
theorem c_194 : kmck mt_194 in_194 680 157 = true := by decide +kernel
set_option maxRecDepth 20000 in
theorem c_195 : kmck mt_195 in_195 1035 157 = true := by decide +kernel
set_option maxRecDepth 20000 in
theorem c_196 : kmck mt_196 in_196 1450 157 = true := by decide +kernel
set_option maxRecDepth 20000 in
theorem c_197 : kmck mt_197 in_197 1662 157 = true := by decide +kernel
set_option maxRecDepth 20000 in
theorem c_198 : kmck mt_198 in_198 718 157 = true := by decide +kernel
set_option maxRecDepth 20000 in
theorem c_199 : kmck mt_199 in_199 715 157 = true := by decide +kernel
set_option maxRecDepth 20000 in
theorem c_200 : kmck mt_200 in_200 712 157 = true := by decide +kernel
set_option maxRecDepth 20000 in
theorem c_201 : kmck mt_201 in_201 1071 157 = true := by decide +kernel
set_option maxRecDepth 20000 in
theorem c_202 : kmck mt_202 in_202 1004 157 = true := by decide +kernel
set_option maxRecDepth 20000 in
theorem c_203 : kmck mt_203 in_203 1031 157 = true := by decide +kernel
set_option maxRecDepth 20000 in
theorem c_204 : kmck mt_204 in_204 1043 157 = true := by decide +kernel
set_option maxRecDepth 20000 in
theorem c_205 : kmck mt_205 in_205 1048 157 = true := by decide +kernel
set_option maxRecDepth 20000 in
theorem c_206 : kmck mt_206 in_206 1083 157 = true := by decide +kernel
set_option maxRecDepth 20000 in
theorem c_207 : kmck mt_207 in_207 1119 157 = true := by decide +kernel
set_option maxRecDepth 20000 in
theorem c_208 : kmck mt_208 in_208 1099 157 = true := by decide +kernel
set_option maxRecDepth 20000 in
theorem c_209 : kmck mt_209 in_209 1111 157 = true := by decide +kernel
set_option maxRecDepth 20000 in
theorem c_210 : kmck mt_210 in_210 1115 157 = true := by decide +kernel
set_option maxRecDepth 20000 in
theorem c_211 : kmck mt_211 in_211 1123 157 = true := by decide +kernel
set_option maxRecDepth 20000 in
theorem c_212 : kmck mt_212 in_212 1131 157 = true := by decide +kernel
set_option maxRecDepth 20000 in
theorem c_213 : kmck mt_213 in_213 1140 157 = true := by decide +kernel
set_option maxRecDepth 20000 in
theorem c_214 : kmck mt_214 in_214 1148 157 = true := by decide +kernel
set_option maxRecDepth 20000 in
theorem c_215 : kmck mt_215 in_215 1156 157 = true := by decide +kernel
set_option maxRecDepth 20000 in
theorem c_216 : kmck mt_216 in_216 1164 157 = true := by decide +kernel
set_option maxRecDepth 20000 in
theorem c_217 : kmck mt_217 in_217 1059 157 = true := by decide +kernel
set_option maxRecDepth 20000 in
theorem c_218 : kmck mt_218 in_218 1190 157 = true := by decide +kernel
set_option maxRecDepth 20000 in
theorem c_219 : kmck mt_219 in_219 1063 157 = true := by decide +kernel
