theorem c_127 : kmck mt_127 in_127 633 157 = true := by decide +kernel
set_option maxRecDepth 20000 in
theorem r_127_0 : kmr mt_127 in_127 0 48 = true := by decide +kernel
theorem q_127 : kmr mt_127 in_127 0 (16 * mt_127.2.2.2.length) = true := kmr_as (r_127_0) (by decide +kernel)
theorem c_128 : kmck mt_128 in_128 676 157 = true := by decide +kernel
set_option maxRecDepth 20000 in
theorem r_128_0 : kmr mt_128 in_128 0 32 = true := by decide +kernel
theorem q_128 : kmr mt_128 in_128 0 (16 * mt_128.2.2.2.length) = true := kmr_as (r_128_0) (by decide +kernel)
theorem c_129 : kmck mt_129 in_129 703 157 = true := by decide +kernel
set_option maxRecDepth 20000 in
theorem r_129_0 : kmr mt_129 in_129 0 32 = true := by decide +kernel
theorem q_129 : kmr mt_129 in_129 0 (16 * mt_129.2.2.2.length) = true := kmr_as (r_129_0) (by decide +kernel)
theorem c_130 : kmck mt_130 in_130 726 157 = true := by decide +kernel
set_option maxRecDepth 20000 in
theorem r_130_0 : kmr mt_130 in_130 0 32 = true := by decide +kernel
theorem q_130 : kmr mt_130 in_130 0 (16 * mt_130.2.2.2.length) = true := kmr_as (r_130_0) (by decide +kernel)
theorem c_131 : kmck mt_131 in_131 735 157 = true := by decide +kernel
set_option maxRecDepth 20000 in
theorem r_131_0 : kmr mt_131 in_131 0 32 = true := by decide +kernel
theorem q_131 : kmr mt_131 in_131 0 (16 * mt_131.2.2.2.length) = true := kmr_as (r_131_0) (by decide +kernel)
theorem c_132 : kmck mt_132 in_132 739 157 = true := by decide +kernel
set_option maxRecDepth 20000 in
theorem r_132_0 : kmr mt_132 in_132 0 48 = true := by decide +kernel
theorem q_132 : kmr mt_132 in_132 0 (16 * mt_132.2.2.2.length) = true := kmr_as (r_132_0) (by decide +kernel)
theorem c_133 : kmck mt_133 in_133 746 157 = true := by decide +kernel
set_option maxRecDepth 20000 in
theorem r_133_0 : kmr mt_133 in_133 0 32 = true := by decide +kernel
theorem q_133 : kmr mt_133 in_133 0 (16 * mt_133.2.2.2.length) = true := kmr_as (r_133_0) (by decide +kernel)
theorem c_134 : kmck mt_134 in_134 753 157 = true := by decide +kernel
set_option maxRecDepth 20000 in
theorem r_134_0 : kmr mt_134 in_134 0 16 = true := by decide +kernel
theorem q_134 : kmr mt_134 in_134 0 (16 * mt_134.2.2.2.length) = true := kmr_as (r_134_0) (by decide +kernel)
theorem c_135 : kmck mt_135 in_135 764 157 = true := by decide +kernel
set_option maxRecDepth 20000 in
theorem r_135_0 : kmr mt_135 in_135 0 16 = true := by decide +kernel
theorem q_135 : kmr mt_135 in_135 0 (16 * mt_135.2.2.2.length) = true := kmr_as (r_135_0) (by decide +kernel)
theorem c_136 : kmck mt_136 in_136 768 157 = true := by decide +kernel
set_option maxRecDepth 20000 in
theorem r_136_0 : kmr mt_136 in_136 0 16 = true := by decide +kernel
theorem q_136 : kmr mt_136 in_136 0 (16 * mt_136.2.2.2.length) = true := kmr_as (r_136_0) (by decide +kernel)
theorem c_137 : kmck mt_137 in_137 777 157 = true := by decide +kernel
set_option maxRecDepth 20000 in
theorem r_137_0 : kmr mt_137 in_137 0 32 = true := by decide +kernel
theorem q_137 : kmr mt_137 in_137 0 (16 * mt_137.2.2.2.length) = true := kmr_as (r_137_0) (by decide +kernel)
theorem c_138 : kmck mt_138 in_138 1000 157 = true := by decide +kernel
set_option maxRecDepth 20000 in
theorem r_138_0 : kmr mt_138 in_138 0 32 = true := by decide +kernel
theorem q_138 : kmr mt_138 in_138 0 (16 * mt_138.2.2.2.length) = true := kmr_as (r_138_0) (by decide +kernel)
theorem c_139 : kmck mt_139 in_139 1027 157 = true := by decide +kernel
set_option maxRecDepth 20000 in
theorem r_139_0 : kmr mt_139 in_139 0 16 = true := by decide +kernel
theorem q_139 : kmr mt_139 in_139 0 (16 * mt_139.2.2.2.length) = true := kmr_as (r_139_0) (by decide +kernel)
theorem c_140 : kmck mt_140 in_140 1160 157 = true := by decide +kernel
set_option maxRecDepth 20000 in
theorem r_140_0 : kmr mt_140 in_140 0 16 = true := by decide +kernel
theorem q_140 : kmr mt_140 in_140 0 (16 * mt_140.2.2.2.length) = true := kmr_as (r_140_0) (by decide +kernel)
theorem c_141 : kmck mt_141 in_141 1674 157 = true := by decide +kernel
set_option maxRecDepth 20000 in
theorem r_141_0 : kmr mt_141 in_141 0 48 = true := by decide +kernel
set_option maxRecDepth 20000 in
theorem r_141_48 : kmr mt_141 in_141 48 16 = true := by decide +kernel
theorem q_141 : kmr mt_141 in_141 0 (16 * mt_141.2.2.2.length) = true := kmr_as (kmr_join (r_141_0) r_141_48) (by decide +kernel)
theorem c_142 : kmck mt_142 in_142 1168 157 = true := by decide +kernel
set_option maxRecDepth 20000 in
theorem r_142_0 : kmr mt_142 in_142 0 48 = true := by decide +kernel
theorem q_142 : kmr mt_142 in_142 0 (16 * mt_142.2.2.2.length) = true := kmr_as (r_142_0) (by decide +kernel)
theorem c_143 : kmck mt_143 in_143 1182 157 = true := by decide +kernel
set_option maxRecDepth 20000 in
theorem r_143_0 : kmr mt_143 in_143 0 48 = true := by decide +kernel
theorem q_143 : kmr mt_143 in_143 0 (16 * mt_143.2.2.2.length) = true := kmr_as (r_143_0) (by decide +kernel)
theorem c_144 : kmck mt_144 in_144 1186 157 = true := by decide +kernel
set_option maxRecDepth 20000 in
theorem r_144_0 : kmr mt_144 in_144 0 48 = true := by decide +kernel
set_option maxRecDepth 20000 in
theorem r_144_48 : kmr mt_144 in_144 48 16 = true := by decide +kernel
theorem q_144 : kmr mt_144 in_144 0 (16 * mt_144.2.2.2.length) = true := kmr_as (kmr_join (r_144_0) r_144_48) (by decide +kernel)
theorem c_145 : kmck mt_145 in_145 1194 157 = true := by decide +kernel
set_option maxRecDepth 20000 in
theorem r_145_0 : kmr mt_145 in_145 0 48 = true := by decide +kernel
theorem q_145 : kmr mt_145 in_145 0 (16 * mt_145.2.2.2.length) = true := kmr_as (r_145_0) (by decide +kernel)
theorem c_146 : kmck mt_146 in_146 1209 157 = true := by decide +kernel
set_option maxRecDepth 20000 in
theorem r_146_0 : kmr mt_146 in_146 0 48 = true := by decide +kernel
set_option maxRecDepth 20000 in
theorem r_146_48 : kmr mt_146 in_146 48 48 = true := by decide +kernel
theorem q_146 : kmr mt_146 in_146 0 (16 * mt_146.2.2.2.length) = true := kmr_as (kmr_join (r_146_0) r_146_48) (by decide +kernel)
theorem c_147 : kmck mt_147 in_147 1229 157 = true := by decide +kernel
set_option maxRecDepth 20000 in
theorem r_147_0 : kmr mt_147 in_147 0 48 = true := by decide +kernel
theorem q_147 : kmr mt_147 in_147 0 (16 * mt_147.2.2.2.length) = true := kmr_as (r_147_0) (by decide +kernel)
theorem c_148 : kmck mt_148 in_148 1245 157 = true := by decide +kernel
set_option maxRecDepth 20000 in
theorem r_148_0 : kmr mt_148 in_148 0 48 = true := by decide +kernel
set_option maxRecDepth 20000 in
theorem r_148_48 : kmr mt_148 in_148 48 48 = true := by decide +kernel
theorem q_148 : kmr mt_148 in_148 0 (16 * mt_148.2.2.2.length) = true := kmr_as (kmr_join (r_148_0) r_148_48) (by decide +kernel)
theorem c_149 : kmck mt_149 in_149 1249 157 = true := by decide +kernel
set_option maxRecDepth 20000 in
theorem r_149_0 : kmr mt_149 in_149 0 48 = true := by decide +kernel
set_option maxRecDepth 20000 in
theorem r_149_48 : kmr mt_149 in_149 48 16 = true := by decide +kernel
theorem q_149 : kmr mt_149 in_149 0 (16 * mt_149.2.2.2.length) = true := kmr_as (kmr_join (r_149_0) r_149_48) (by decide +kernel)
theorem c_150 : kmck mt_150 in_150 1257 157 = true := by decide +kernel
set_option maxRecDepth 20000 in
theorem r_150_0 : kmr mt_150 in_150 0 32 = true := by decide +kernel
theorem q_150 : kmr mt_150 in_150 0 (16 * mt_150.2.2.2.length) = true := kmr_as (r_150_0) (by decide +kernel)
theorem c_151 : kmck mt_151 in_151 1261 157 = true := by decide +kernel
set_option maxRecDepth 20000 in
theorem r_151_0 : kmr mt_151 in_151 0 16 = true := by decide +kernel
theorem q_151 : kmr mt_151 in_151 0 (16 * mt_151.2.2.2.length) = true := kmr_as (r_151_0) (by decide +kernel)
theorem c_152 : kmck mt_152 in_152 1273 157 = true := by decide +kernel
set_option maxRecDepth 20000 in
theorem r_152_0 : kmr mt_152 in_152 0 32 = true := by decide +kernel
theorem q_152 : kmr mt_152 in_152 0 (16 * mt_152.2.2.2.length) = true := kmr_as (r_152_0) (by decide +kernel)
theorem c_153 : kmck mt_153 in_153 1282 157 = true := by decide +kernel
set_option maxRecDepth 20000 in
theorem r_153_0 : kmr mt_153 in_153 0 16 = true := by decide +kernel
theorem q_153 : kmr mt_153 in_153 0 (16 * mt_153.2.2.2.length) = true := kmr_as (r_153_0) (by decide +kernel)
theorem c_154 : kmck mt_154 in_154 1752 157 = true := by decide +kernel
set_option maxRecDepth 20000 in
theorem r_154_0 : kmr mt_154 in_154 0 48 = true := by decide +kernel
theorem q_154 : kmr mt_154 in_154 0 (16 * mt_154.2.2.2.length) = true := kmr_as (r_154_0) (by decide +kernel)
theorem c_155 : kmck mt_155 in_155 1770 157 = true := by decide +kernel
set_option maxRecDepth 20000 in
theorem r_155_0 : kmr mt_155 in_155 0 32 = true := by decide +kernel
theorem q_155 : kmr mt_155 in_155 0 (16 * mt_155.2.2.2.length) = true := kmr_as (r_155_0) (by decide +kernel)
theorem c_156 : kmck mt_156 in_156 1290 157 = true := by decide +kernel
set_option maxRecDepth 20000 in
theorem r_156_0 : kmr mt_156 in_156 0 32 = true := by decide +kernel
theorem q_156 : kmr mt_156 in_156 0 (16 * mt_156.2.2.2.length) = true := kmr_as (r_156_0) (by decide +kernel)
theorem c_157 : kmck mt_157 in_157 1298 157 = true := by decide +kernel
set_option maxRecDepth 20000 in
theorem r_157_0 : kmr mt_157 in_157 0 16 = true := by decide +kernel
theorem q_157 : kmr mt_157 in_157 0 (16 * mt_157.2.2.2.length) = true := kmr_as (r_157_0) (by decide +kernel)
theorem c_158 : kmck mt_158 in_158 1391 157 = true := by decide +kernel
set_option maxRecDepth 20000 in
theorem r_158_0 : kmr mt_158 in_158 0 32 = true := by decide +kernel
theorem q_158 : kmr mt_158 in_158 0 (16 * mt_158.2.2.2.length) = true := kmr_as (r_158_0) (by decide +kernel)
theorem c_159 : kmck mt_159 in_159 1400 157 = true := by decide +kernel
set_option maxRecDepth 20000 in
theorem r_159_0 : kmr mt_159 in_159 0 32 = true := by decide +kernel
theorem q_159 : kmr mt_159 in_159 0 (16 * mt_159.2.2.2.length) = true := kmr_as (r_159_0) (by decide +kernel)
theorem c_160 : kmck mt_160 in_160 1437 157 = true := by decide +kernel
set_option maxRecDepth 20000 in
theorem r_160_0 : kmr mt_160 in_160 0 32 = true := by decide +kernel
theorem q_160 : kmr mt_160 in_160 0 (16 * mt_160.2.2.2.length) = true := kmr_as (r_160_0) (by decide +kernel)
theorem c_161 : kmck mt_161 in_161 1446 157 = true := by decide +kernel
set_option maxRecDepth 20000 in
theorem r_161_0 : kmr mt_161 in_161 0 32 = true := by decide +kernel
theorem q_161 : kmr mt_161 in_161 0 (16 * mt_161.2.2.2.length) = true := kmr_as (r_161_0) (by decide +kernel)
theorem c_162 : kmck mt_162 in_162 1477 157 = true := by decide +kernel
set_option maxRecDepth 20000 in
theorem r_162_0 : kmr mt_162 in_162 0 32 = true := by decide +kernel
theorem q_162 : kmr mt_162 in_162 0 (16 * mt_162.2.2.2.length) = true := kmr_as (r_162_0) (by decide +kernel)
theorem c_163 : kmck mt_163 in_163 1485 157 = true := by decide +kernel
set_option maxRecDepth 20000 in
theorem r_163_0 : kmr mt_163 in_163 0 32 = true := by decide +kernel
theorem q_163 : kmr mt_163 in_163 0 (16 * mt_163.2.2.2.length) = true := kmr_as (r_163_0) (by decide +kernel)
theorem c_164 : kmck mt_164 in_164 1505 157 = true := by decide +kernel
set_option maxRecDepth 20000 in
theorem r_164_0 : kmr mt_164 in_164 0 32 = true := by decide +kernel
theorem q_164 : kmr mt_164 in_164 0 (16 * mt_164.2.2.2.length) = true := kmr_as (r_164_0) (by decide +kernel)
theorem c_165 : kmck mt_165 in_165 1514 157 = true := by decide +kernel
set_option maxRecDepth 20000 in
theorem r_165_0 : kmr mt_165 in_165 0 32 = true := by decide +kernel
theorem q_165 : kmr mt_165 in_165 0 (16 * mt_165.2.2.2.length) = true := kmr_as (r_165_0) (by decide +kernel)
theorem c_166 : kmck mt_166 in_166 1518 157 = true := by decide +kernel
set_option maxRecDepth 20000 in
theorem r_166_0 : kmr mt_166 in_166 0 32 = true := by decide +kernel
theorem q_166 : kmr mt_166 in_166 0 (16 * mt_166.2.2.2.length) = true := kmr_as (r_166_0) (by decide +kernel)
theorem c_167 : kmck mt_167 in_167 1527 157 = true := by decide +kernel
set_option maxRecDepth 20000 in
theorem r_167_0 : kmr mt_167 in_167 0 32 = true := by decide +kernel
theorem q_167 : kmr mt_167 in_167 0 (16 * mt_167.2.2.2.length) = true := kmr_as (r_167_0) (by decide +kernel)
theorem c_168 : kmck mt_168 in_168 1531 157 = true := by decide +kernel
set_option maxRecDepth 20000 in
theorem r_168_0 : kmr mt_168 in_168 0 48 = true := by decide +kernel
theorem q_168 : kmr mt_168 in_168 0 (16 * mt_168.2.2.2.length) = true := kmr_as (r_168_0) (by decide +kernel)
theorem c_169 : kmck mt_169 in_169 1535 157 = true := by decide +kernel
set_option maxRecDepth 20000 in
theorem r_169_0 : kmr mt_169 in_169 0 48 = true := by decide +kernel
theorem q_169 : kmr mt_169 in_169 0 (16 * mt_169.2.2.2.length) = true := kmr_as (r_169_0) (by decide +kernel)
theorem c_170 : kmck mt_170 in_170 1539 157 = true := by decide +kernel
set_option maxRecDepth 20000 in
theorem r_170_0 : kmr mt_170 in_170 0 48 = true := by decide +kernel
theorem q_170 : kmr mt_170 in_170 0 (16 * mt_170.2.2.2.length) = true := kmr_as (r_170_0) (by decide +kernel)
theorem c_171 : kmck mt_171 in_171 1551 157 = true := by decide +kernel
set_option maxRecDepth 20000 in
theorem r_171_0 : kmr mt_171 in_171 0 32 = true := by decide +kernel
theorem q_171 : kmr mt_171 in_171 0 (16 * mt_171.2.2.2.length) = true := kmr_as (r_171_0) (by decide +kernel)
theorem c_172 : kmck mt_172 in_172 1571 157 = true := by decide +kernel
set_option maxRecDepth 20000 in
theorem r_172_0 : kmr mt_172 in_172 0 48 = true := by decide +kernel
theorem q_172 : kmr mt_172 in_172 0 (16 * mt_172.2.2.2.length) = true := kmr_as (r_172_0) (by decide +kernel)
theorem c_173 : kmck mt_173 in_173 1575 157 = true := by decide +kernel
set_option maxRecDepth 20000 in
theorem r_173_0 : kmr mt_173 in_173 0 48 = true := by decide +kernel
theorem q_173 : kmr mt_173 in_173 0 (16 * mt_173.2.2.2.length) = true := kmr_as (r_173_0) (by decide +kernel)
theorem c_174 : kmck mt_174 in_174 1587 157 = true := by decide +kernel
set_option maxRecDepth 20000 in
theorem r_174_0 : kmr mt_174 in_174 0 48 = true := by decide +kernel
set_option maxRecDepth 20000 in
theorem r_174_48 : kmr mt_174 in_174 48 16 = true := by decide +kernel
theorem q_174 : kmr mt_174 in_174 0 (16 * mt_174.2.2.2.length) = true := kmr_as (kmr_join (r_174_0) r_174_48) (by decide +kernel)
theorem c_175 : kmck mt_175 in_175 1596 157 = true := by decide +kernel
set_option maxRecDepth 20000 in
theorem r_175_0 : kmr mt_175 in_175 0 48 = true := by decide +kernel
theorem q_175 : kmr mt_175 in_175 0 (16 * mt_175.2.2.2.length) = true := kmr_as (r_175_0) (by decide +kernel)
theorem c_176 : kmck mt_176 in_176 1600 157 = true := by decide +kernel
set_option maxRecDepth 20000 in
theorem r_176_0 : kmr mt_176 in_176 0 48 = true := by decide +kernel
set_option maxRecDepth 20000 in
theorem r_176_48 : kmr mt_176 in_176 48 16 = true := by decide +kernel
theorem q_176 : kmr mt_176 in_176 0 (16 * mt_176.2.2.2.length) = true := kmr_as (kmr_join (r_176_0) r_176_48) (by decide +kernel)
theorem c_177 : kmck mt_177 in_177 1608 157 = true := by decide +kernel
set_option maxRecDepth 20000 in
theorem r_177_0 : kmr mt_177 in_177 0 48 = true := by decide +kernel
theorem q_177 : kmr mt_177 in_177 0 (16 * mt_177.2.2.2.length) = true := kmr_as (r_177_0) (by decide +kernel)
theorem c_178 : kmck mt_178 in_178 1616 157 = true := by decide +kernel
set_option maxRecDepth 20000 in
theorem r_178_0 : kmr mt_178 in_178 0 48 = true := by decide +kernel
set_option maxRecDepth 20000 in
theorem r_178_48 : kmr mt_178 in_178 48 32 = true := by decide +kernel
theorem q_178 : kmr mt_178 in_178 0 (16 * mt_178.2.2.2.length) = true := kmr_as (kmr_join (r_178_0) r_178_48) (by decide +kernel)
theorem c_179 : kmck mt_179 in_179 1620 157 = true := by decide +kernel
set_option maxRecDepth 20000 in
theorem r_179_0 : kmr mt_179 in_179 0 16 = true := by decide +kernel
theorem q_179 : kmr mt_179 in_179 0 (16 * mt_179.2.2.2.length) = true := kmr_as (r_179_0) (by decide +kernel)
theorem c_180 : kmck mt_180 in_180 1780 157 = true := by decide +kernel
set_option maxRecDepth 20000 in
theorem r_180_0 : kmr mt_180 in_180 0 48 = true := by decide +kernel
theorem q_180 : kmr mt_180 in_180 0 (16 * mt_180.2.2.2.length) = true := kmr_as (r_180_0) (by decide +kernel)
theorem c_181 : kmck mt_181 in_181 1624 157 = true := by decide +kernel
set_option maxRecDepth 20000 in
theorem r_181_0 : kmr mt_181 in_181 0 48 = true := by decide +kernel
theorem q_181 : kmr mt_181 in_181 0 (16 * mt_181.2.2.2.length) = true := kmr_as (r_181_0) (by decide +kernel)
theorem c_182 : kmck mt_182 in_182 1650 157 = true := by decide +kernel
set_option maxRecDepth 20000 in
theorem r_182_0 : kmr mt_182 in_182 0 48 = true := by decide +kernel
set_option maxRecDepth 20000 in
theorem r_182_48 : kmr mt_182 in_182 48 16 = true := by decide +kernel
theorem q_182 : kmr mt_182 in_182 0 (16 * mt_182.2.2.2.length) = true := kmr_as (kmr_join (r_182_0) r_182_48) (by decide +kernel)
theorem c_183 : kmck mt_183 in_183 639 157 = true := by decide +kernel
set_option maxRecDepth 20000 in
theorem r_183_0 : kmr mt_183 in_183 0 16 = true := by decide +kernel
theorem q_183 : kmr mt_183 in_183 0 (16 * mt_183.2.2.2.length) = true := kmr_as (r_183_0) (by decide +kernel)
theorem c_184 : kmck mt_184 in_184 636 157 = true := by decide +kernel
set_option maxRecDepth 20000 in
theorem r_184_0 : kmr mt_184 in_184 0 16 = true := by decide +kernel
theorem q_184 : kmr mt_184 in_184 0 (16 * mt_184.2.2.2.length) = true := kmr_as (r_184_0) (by decide +kernel)
theorem c_185 : kmck mt_185 in_185 1090 157 = true := by decide +kernel
set_option maxRecDepth 20000 in
theorem r_185_0 : kmr mt_185 in_185 0 16 = true := by decide +kernel
theorem q_185 : kmr mt_185 in_185 0 (16 * mt_185.2.2.2.length) = true := kmr_as (r_185_0) (by decide +kernel)
theorem c_186 : kmck mt_186 in_186 691 157 = true := by decide +kernel
set_option maxRecDepth 20000 in
theorem r_186_0 : kmr mt_186 in_186 0 16 = true := by decide +kernel
theorem q_186 : kmr mt_186 in_186 0 (16 * mt_186.2.2.2.length) = true := kmr_as (r_186_0) (by decide +kernel)
theorem c_187 : kmck mt_187 in_187 709 157 = true := by decide +kernel
set_option maxRecDepth 20000 in
theorem r_187_0 : kmr mt_187 in_187 0 16 = true := by decide +kernel
theorem q_187 : kmr mt_187 in_187 0 (16 * mt_187.2.2.2.length) = true := kmr_as (r_187_0) (by decide +kernel)
theorem c_188 : kmck mt_188 in_188 706 157 = true := by decide +kernel
set_option maxRecDepth 20000 in
theorem r_188_0 : kmr mt_188 in_188 0 16 = true := by decide +kernel
theorem q_188 : kmr mt_188 in_188 0 (16 * mt_188.2.2.2.length) = true := kmr_as (r_188_0) (by decide +kernel)
theorem c_189 : kmck mt_189 in_189 742 157 = true := by decide +kernel
set_option maxRecDepth 20000 in
theorem r_189_0 : kmr mt_189 in_189 0 16 = true := by decide +kernel
theorem q_189 : kmr mt_189 in_189 0 (16 * mt_189.2.2.2.length) = true := kmr_as (r_189_0) (by decide +kernel)
theorem c_190 : kmck mt_190 in_190 749 157 = true := by decide +kernel
set_option maxRecDepth 20000 in
theorem r_190_0 : kmr mt_190 in_190 0 16 = true := by decide +kernel
theorem q_190 : kmr mt_190 in_190 0 (16 * mt_190.2.2.2.length) = true := kmr_as (r_190_0) (by decide +kernel)
theorem c_191 : kmck mt_191 in_191 756 157 = true := by decide +kernel
set_option maxRecDepth 20000 in
theorem r_191_0 : kmr mt_191 in_191 0 16 = true := by decide +kernel
theorem q_191 : kmr mt_191 in_191 0 (16 * mt_191.2.2.2.length) = true := kmr_as (r_191_0) (by decide +kernel)
theorem c_192 : kmck mt_192 in_192 688 157 = true := by decide +kernel
set_option maxRecDepth 20000 in
theorem r_192_0 : kmr mt_192 in_192 0 16 = true := by decide +kernel
theorem q_192 : kmr mt_192 in_192 0 (16 * mt_192.2.2.2.length) = true := kmr_as (r_192_0) (by decide +kernel)
theorem c_193 : kmck mt_193 in_193 684 157 = true := by decide +kernel
set_option maxRecDepth 20000 in
theorem r_193_0 : kmr mt_193 in_193 0 32 = true := by decide +kernel
theorem q_193 : kmr mt_193 in_193 0 (16 * mt_193.2.2.2.length) = true := kmr_as (r_193_0) (by decide +kernel)
theorem c_194 : kmck mt_194 in_194 680 157 = true := by decide +kernel
set_option maxRecDepth 20000 in
theorem r_194_0 : kmr mt_194 in_194 0 32 = true := by decide +kernel
theorem q_194 : kmr mt_194 in_194 0 (16 * mt_194.2.2.2.length) = true := kmr_as (r_194_0) (by decide +kernel)
theorem c_195 : kmck mt_195 in_195 1035 157 = true := by decide +kernel
set_option maxRecDepth 20000 in
theorem r_195_0 : kmr mt_195 in_195 0 32 = true := by decide +kernel
theorem q_195 : kmr mt_195 in_195 0 (16 * mt_195.2.2.2.length) = true := kmr_as (r_195_0) (by decide +kernel)
theorem c_196 : kmck mt_196 in_196 1450 157 = true := by decide +kernel
set_option maxRecDepth 20000 in
theorem r_196_0 : kmr mt_196 in_196 0 32 = true := by decide +kernel
theorem q_196 : kmr mt_196 in_196 0 (16 * mt_196.2.2.2.length) = true := kmr_as (r_196_0) (by decide +kernel)
theorem c_197 : kmck mt_197 in_197 1662 157 = true := by decide +kernel
set_option maxRecDepth 20000 in
theorem r_197_0 : kmr mt_197 in_197 0 32 = true := by decide +kernel
theorem q_197 : kmr mt_197 in_197 0 (16 * mt_197.2.2.2.length) = true := kmr_as (r_197_0) (by decide +kernel)
theorem c_198 : kmck mt_198 in_198 718 157 = true := by decide +kernel
set_option maxRecDepth 20000 in
theorem r_198_0 : kmr mt_198 in_198 0 16 = true := by decide +kernel
theorem q_198 : kmr mt_198 in_198 0 (16 * mt_198.2.2.2.length) = true := kmr_as (r_198_0) (by decide +kernel)
theorem c_199 : kmck mt_199 in_199 715 157 = true := by decide +kernel
set_option maxRecDepth 20000 in
theorem r_199_0 : kmr mt_199 in_199 0 16 = true := by decide +kernel
theorem q_199 : kmr mt_199 in_199 0 (16 * mt_199.2.2.2.length) = true := kmr_as (r_199_0) (by decide +kernel)
theorem c_200 : kmck mt_200 in_200 712 157 = true := by decide +kernel
set_option maxRecDepth 20000 in
theorem r_200_0 : kmr mt_200 in_200 0 16 = true := by decide +kernel
theorem q_200 : kmr mt_200 in_200 0 (16 * mt_200.2.2.2.length) = true := kmr_as (r_200_0) (by decide +kernel)
theorem c_201 : kmck mt_201 in_201 1071 157 = true := by decide +kernel
set_option maxRecDepth 20000 in
theorem r_201_0 : kmr mt_201 in_201 0 32 = true := by decide +kernel
theorem q_201 : kmr mt_201 in_201 0 (16 * mt_201.2.2.2.length) = true := kmr_as (r_201_0) (by decide +kernel)
theorem c_202 : kmck mt_202 in_202 1004 157 = true := by decide +kernel
set_option maxRecDepth 20000 in
theorem r_202_0 : kmr mt_202 in_202 0 48 = true := by decide +kernel
set_option maxRecDepth 20000 in
theorem r_202_48 : kmr mt_202 in_202 48 16 = true := by decide +kernel
theorem q_202 : kmr mt_202 in_202 0 (16 * mt_202.2.2.2.length) = true := kmr_as (kmr_join (r_202_0) r_202_48) (by decide +kernel)
theorem c_203 : kmck mt_203 in_203 1031 157 = true := by decide +kernel
set_option maxRecDepth 20000 in
theorem r_203_0 : kmr mt_203 in_203 0 48 = true := by decide +kernel
set_option maxRecDepth 20000 in
theorem r_203_48 : kmr mt_203 in_203 48 48 = true := by decide +kernel
theorem q_203 : kmr mt_203 in_203 0 (16 * mt_203.2.2.2.length) = true := kmr_as (kmr_join (r_203_0) r_203_48) (by decide +kernel)
theorem c_204 : kmck mt_204 in_204 1043 157 = true := by decide +kernel
set_option maxRecDepth 20000 in
theorem r_204_0 : kmr mt_204 in_204 0 48 = true := by decide +kernel
set_option maxRecDepth 20000 in
theorem r_204_48 : kmr mt_204 in_204 48 48 = true := by decide +kernel
theorem q_204 : kmr mt_204 in_204 0 (16 * mt_204.2.2.2.length) = true := kmr_as (kmr_join (r_204_0) r_204_48) (by decide +kernel)
theorem c_205 : kmck mt_205 in_205 1048 157 = true := by decide +kernel
set_option maxRecDepth 20000 in
theorem r_205_0 : kmr mt_205 in_205 0 48 = true := by decide +kernel
set_option maxRecDepth 20000 in
theorem r_205_48 : kmr mt_205 in_205 48 16 = true := by decide +kernel
theorem q_205 : kmr mt_205 in_205 0 (16 * mt_205.2.2.2.length) = true := kmr_as (kmr_join (r_205_0) r_205_48) (by decide +kernel)
theorem c_206 : kmck mt_206 in_206 1083 157 = true := by decide +kernel
set_option maxRecDepth 20000 in
theorem r_206_0 : kmr mt_206 in_206 0 48 = true := by decide +kernel
set_option maxRecDepth 20000 in
theorem r_206_48 : kmr mt_206 in_206 48 32 = true := by decide +kernel
theorem q_206 : kmr mt_206 in_206 0 (16 * mt_206.2.2.2.length) = true := kmr_as (kmr_join (r_206_0) r_206_48) (by decide +kernel)
theorem c_207 : kmck mt_207 in_207 1119 157 = true := by decide +kernel
set_option maxRecDepth 20000 in
theorem r_207_0 : kmr mt_207 in_207 0 48 = true := by decide +kernel
set_option maxRecDepth 20000 in
theorem r_207_48 : kmr mt_207 in_207 48 16 = true := by decide +kernel
theorem q_207 : kmr mt_207 in_207 0 (16 * mt_207.2.2.2.length) = true := kmr_as (kmr_join (r_207_0) r_207_48) (by decide +kernel)
theorem c_208 : kmck mt_208 in_208 1099 157 = true := by decide +kernel
set_option maxRecDepth 20000 in
theorem r_208_0 : kmr mt_208 in_208 0 48 = true := by decide +kernel
theorem q_208 : kmr mt_208 in_208 0 (16 * mt_208.2.2.2.length) = true := kmr_as (r_208_0) (by decide +kernel)
theorem c_209 : kmck mt_209 in_209 1111 157 = true := by decide +kernel
set_option maxRecDepth 20000 in
theorem r_209_0 : kmr mt_209 in_209 0 32 = true := by decide +kernel
theorem q_209 : kmr mt_209 in_209 0 (16 * mt_209.2.2.2.length) = true := kmr_as (r_209_0) (by decide +kernel)
theorem c_210 : kmck mt_210 in_210 1115 157 = true := by decide +kernel
set_option maxRecDepth 20000 in
theorem r_210_0 : kmr mt_210 in_210 0 16 = true := by decide +kernel
theorem q_210 : kmr mt_210 in_210 0 (16 * mt_210.2.2.2.length) = true := kmr_as (r_210_0) (by decide +kernel)
theorem c_211 : kmck mt_211 in_211 1123 157 = true := by decide +kernel
set_option maxRecDepth 20000 in
theorem r_211_0 : kmr mt_211 in_211 0 32 = true := by decide +kernel
theorem q_211 : kmr mt_211 in_211 0 (16 * mt_211.2.2.2.length) = true := kmr_as (r_211_0) (by decide +kernel)
theorem c_212 : kmck mt_212 in_212 1131 157 = true := by decide +kernel
set_option maxRecDepth 20000 in
theorem r_212_0 : kmr mt_212 in_212 0 32 = true := by decide +kernel
theorem q_212 : kmr mt_212 in_212 0 (16 * mt_212.2.2.2.length) = true := kmr_as (r_212_0) (by decide +kernel)
theorem c_213 : kmck mt_213 in_213 1140 157 = true := by decide +kernel
set_option maxRecDepth 20000 in
theorem r_213_0 : kmr mt_213 in_213 0 32 = true := by decide +kernel
theorem q_213 : kmr mt_213 in_213 0 (16 * mt_213.2.2.2.length) = true := kmr_as (r_213_0) (by decide +kernel)
theorem c_214 : kmck mt_214 in_214 1148 157 = true := by decide +kernel
set_option maxRecDepth 20000 in
theorem r_214_0 : kmr mt_214 in_214 0 48 = true := by decide +kernel
theorem q_214 : kmr mt_214 in_214 0 (16 * mt_214.2.2.2.length) = true := kmr_as (r_214_0) (by decide +kernel)
theorem c_215 : kmck mt_215 in_215 1156 157 = true := by decide +kernel
set_option maxRecDepth 20000 in
theorem r_215_0 : kmr mt_215 in_215 0 32 = true := by decide +kernel
theorem q_215 : kmr mt_215 in_215 0 (16 * mt_215.2.2.2.length) = true := kmr_as (r_215_0) (by decide +kernel)
theorem c_216 : kmck mt_216 in_216 1164 157 = true := by decide +kernel
set_option maxRecDepth 20000 in
theorem r_216_0 : kmr mt_216 in_216 0 32 = true := by decide +kernel
theorem q_216 : kmr mt_216 in_216 0 (16 * mt_216.2.2.2.length) = true := kmr_as (r_216_0) (by decide +kernel)
theorem c_217 : kmck mt_217 in_217 1059 157 = true := by decide +kernel
set_option maxRecDepth 20000 in
theorem r_217_0 : kmr mt_217 in_217 0 48 = true := by decide +kernel
theorem q_217 : kmr mt_217 in_217 0 (16 * mt_217.2.2.2.length) = true := kmr_as (r_217_0) (by decide +kernel)
theorem c_218 : kmck mt_218 in_218 1190 157 = true := by decide +kernel
set_option maxRecDepth 20000 in
theorem r_218_0 : kmr mt_218 in_218 0 32 = true := by decide +kernel
theorem q_218 : kmr mt_218 in_218 0 (16 * mt_218.2.2.2.length) = true := kmr_as (r_218_0) (by decide +kernel)
theorem c_219 : kmck mt_219 in_219 1063 157 = true := by decide +kernel
set_option maxRecDepth 20000 in
theorem r_219_0 : kmr mt_219 in_219 0 32 = true := by decide +kernel
theorem q_219 : kmr mt_219 in_219 0 (16 * mt_219.2.2.2.length) = true := kmr_as (r_219_0) (by decide +kernel)
