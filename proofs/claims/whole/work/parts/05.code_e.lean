theorem i_law_0 {X : ev_X} : fe (M_law X) 0 (.new 7) 3 3 := ⟨by show decode code 0 = _; decide +kernel, rfl⟩
theorem i_law_3 {X : ev_X} : fe (M_law X) 3 .dup 1 4 := ⟨by show decode code 3 = _; decide +kernel, rfl⟩
theorem i_law_4 {X : ev_X} : fe (M_law X) 4 (.invokespecial 9) 3 7 := ⟨by show decode code 4 = _; decide +kernel, rfl⟩
theorem i_law_7 {X : ev_X} : fe (M_law X) 7 (.astore_n 1) 1 8 := ⟨by show decode code 7 = _; decide +kernel, rfl⟩
theorem i_law_8 {X : ev_X} : fe (M_law X) 8 (.new 10) 3 11 := ⟨by show decode code 8 = _; decide +kernel, rfl⟩
theorem i_law_11 {X : ev_X} : fe (M_law X) 11 .dup 1 12 := ⟨by show decode code 11 = _; decide +kernel, rfl⟩
theorem i_law_12 {X : ev_X} : fe (M_law X) 12 (.invokespecial 12) 3 15 := ⟨by show decode code 12 = _; decide +kernel, rfl⟩
theorem i_law_15 {X : ev_X} : fe (M_law X) 15 (.astore_n 2) 1 16 := ⟨by show decode code 15 = _; decide +kernel, rfl⟩
theorem i_law_16 {X : ev_X} : fe (M_law X) 16 (.iconst 0) 1 17 := ⟨by show decode code 16 = _; decide +kernel, rfl⟩
theorem i_law_17 {X : ev_X} : fe (M_law X) 17 (.istore_n 3) 1 18 := ⟨by show decode code 17 = _; decide +kernel, rfl⟩
theorem i_law_18 {X : ev_X} : fe (M_law X) 18 (.iload_n 3) 1 19 := ⟨by show decode code 18 = _; decide +kernel, rfl⟩
theorem i_law_19 {X : ev_X} : fe (M_law X) 19 (.aload_n 0) 1 20 := ⟨by show decode code 19 = _; decide +kernel, rfl⟩
theorem i_law_20 {X : ev_X} : fe (M_law X) 20 .arraylength 1 21 := ⟨by show decode code 20 = _; decide +kernel, rfl⟩
theorem i_law_21 {X : ev_X} : fe (M_law X) 21 (.iconst 5) 1 22 := ⟨by show decode code 21 = _; decide +kernel, rfl⟩
theorem i_law_22 {X : ev_X} : fe (M_law X) 22 .isub 1 23 := ⟨by show decode code 22 = _; decide +kernel, rfl⟩
theorem i_law_23 {X : ev_X} : fb (M_law X) 23 (.if_icmp .gt) 815 26 := ⟨792, by show decode code 23 = _; decide +kernel, by decide, rfl⟩
theorem i_law_26 {X : ev_X} : fe (M_law X) 26 (.aload_n 0) 1 27 := ⟨by show decode code 26 = _; decide +kernel, rfl⟩
theorem i_law_27 {X : ev_X} : fe (M_law X) 27 (.iload_n 3) 1 28 := ⟨by show decode code 27 = _; decide +kernel, rfl⟩
theorem i_law_28 {X : ev_X} : fe (M_law X) 28 .iaload 1 29 := ⟨by show decode code 28 = _; decide +kernel, rfl⟩
theorem i_law_29 {X : ev_X} : fe (M_law X) 29 (.bipush 31) 2 31 := ⟨by show decode code 29 = _; decide +kernel, rfl⟩
theorem i_law_31 {X : ev_X} : fe (M_law X) 31 .iand 1 32 := ⟨by show decode code 31 = _; decide +kernel, rfl⟩
theorem i_law_32 {X : ev_X} : decode (M_law X).2.1 32 = .ok (.tableswitch 777 0 18 #[92, 145, 198, 257, 282, 295, 318, 341, 384, 417, 450, 493, 526, 549, 582, 615, 628, 651, 714], 92) := by show decode code 32 = _; decide +kernel
theorem i_law_124 {X : ev_X} : fe (M_law X) 124 (.aload_n 1) 1 125 := ⟨by show decode code 124 = _; decide +kernel, rfl⟩
theorem i_law_125 {X : ev_X} : fe (M_law X) 125 (.aload_n 0) 1 126 := ⟨by show decode code 125 = _; decide +kernel, rfl⟩
theorem i_law_126 {X : ev_X} : fe (M_law X) 126 (.iload_n 3) 1 127 := ⟨by show decode code 126 = _; decide +kernel, rfl⟩
theorem i_law_127 {X : ev_X} : fe (M_law X) 127 (.iconst 1) 1 128 := ⟨by show decode code 127 = _; decide +kernel, rfl⟩
theorem i_law_128 {X : ev_X} : fe (M_law X) 128 .iadd 1 129 := ⟨by show decode code 128 = _; decide +kernel, rfl⟩
theorem i_law_129 {X : ev_X} : fe (M_law X) 129 .iaload 1 130 := ⟨by show decode code 129 = _; decide +kernel, rfl⟩
theorem i_law_130 {X : ev_X} : fe (M_law X) 130 .i2l 1 131 := ⟨by show decode code 130 = _; decide +kernel, rfl⟩
theorem i_law_131 {X : ev_X} : fe (M_law X) 131 (.bipush 32) 2 133 := ⟨by show decode code 131 = _; decide +kernel, rfl⟩
theorem i_law_133 {X : ev_X} : fe (M_law X) 133 .lshl 1 134 := ⟨by show decode code 133 = _; decide +kernel, rfl⟩
theorem i_law_134 {X : ev_X} : fe (M_law X) 134 (.aload_n 0) 1 135 := ⟨by show decode code 134 = _; decide +kernel, rfl⟩
theorem i_law_135 {X : ev_X} : fe (M_law X) 135 (.iload_n 3) 1 136 := ⟨by show decode code 135 = _; decide +kernel, rfl⟩
theorem i_law_136 {X : ev_X} : fe (M_law X) 136 (.iconst 2) 1 137 := ⟨by show decode code 136 = _; decide +kernel, rfl⟩
theorem i_law_137 {X : ev_X} : fe (M_law X) 137 .iadd 1 138 := ⟨by show decode code 137 = _; decide +kernel, rfl⟩
theorem i_law_138 {X : ev_X} : fe (M_law X) 138 .iaload 1 139 := ⟨by show decode code 138 = _; decide +kernel, rfl⟩
theorem i_law_139 {X : ev_X} : fe (M_law X) 139 .i2l 1 140 := ⟨by show decode code 139 = _; decide +kernel, rfl⟩
theorem i_law_140 {X : ev_X} : fe (M_law X) 140 (.ldc2_w 13) 3 143 := ⟨by show decode code 140 = _; decide +kernel, rfl⟩
theorem i_law_143 {X : ev_X} : fe (M_law X) 143 .land 1 144 := ⟨by show decode code 143 = _; decide +kernel, rfl⟩
theorem i_law_144 {X : ev_X} : fe (M_law X) 144 .lor 1 145 := ⟨by show decode code 144 = _; decide +kernel, rfl⟩
theorem i_law_145 {X : ev_X} : fe (M_law X) 145 (.invokevirtual 15) 3 148 := ⟨by show decode code 145 = _; decide +kernel, rfl⟩
theorem i_law_148 {X : ev_X} : fe (M_law X) 148 (.aload_n 2) 1 149 := ⟨by show decode code 148 = _; decide +kernel, rfl⟩
theorem i_law_149 {X : ev_X} : fe (M_law X) 149 (.aload_n 0) 1 150 := ⟨by show decode code 149 = _; decide +kernel, rfl⟩
theorem i_law_150 {X : ev_X} : fe (M_law X) 150 (.iload_n 3) 1 151 := ⟨by show decode code 150 = _; decide +kernel, rfl⟩
theorem i_law_151 {X : ev_X} : fe (M_law X) 151 (.iconst 1) 1 152 := ⟨by show decode code 151 = _; decide +kernel, rfl⟩
theorem i_law_152 {X : ev_X} : fe (M_law X) 152 .iadd 1 153 := ⟨by show decode code 152 = _; decide +kernel, rfl⟩
theorem i_law_153 {X : ev_X} : fe (M_law X) 153 .iaload 1 154 := ⟨by show decode code 153 = _; decide +kernel, rfl⟩
theorem i_law_154 {X : ev_X} : fe (M_law X) 154 .i2l 1 155 := ⟨by show decode code 154 = _; decide +kernel, rfl⟩
theorem i_law_155 {X : ev_X} : fe (M_law X) 155 (.bipush 32) 2 157 := ⟨by show decode code 155 = _; decide +kernel, rfl⟩
theorem i_law_157 {X : ev_X} : fe (M_law X) 157 .lshl 1 158 := ⟨by show decode code 157 = _; decide +kernel, rfl⟩
theorem i_law_158 {X : ev_X} : fe (M_law X) 158 (.aload_n 0) 1 159 := ⟨by show decode code 158 = _; decide +kernel, rfl⟩
theorem i_law_159 {X : ev_X} : fe (M_law X) 159 (.iload_n 3) 1 160 := ⟨by show decode code 159 = _; decide +kernel, rfl⟩
theorem i_law_160 {X : ev_X} : fe (M_law X) 160 (.iconst 2) 1 161 := ⟨by show decode code 160 = _; decide +kernel, rfl⟩
theorem i_law_161 {X : ev_X} : fe (M_law X) 161 .iadd 1 162 := ⟨by show decode code 161 = _; decide +kernel, rfl⟩
theorem i_law_162 {X : ev_X} : fe (M_law X) 162 .iaload 1 163 := ⟨by show decode code 162 = _; decide +kernel, rfl⟩
theorem i_law_163 {X : ev_X} : fe (M_law X) 163 .i2l 1 164 := ⟨by show decode code 163 = _; decide +kernel, rfl⟩
theorem i_law_164 {X : ev_X} : fe (M_law X) 164 (.ldc2_w 13) 3 167 := ⟨by show decode code 164 = _; decide +kernel, rfl⟩
theorem i_law_167 {X : ev_X} : fe (M_law X) 167 .land 1 168 := ⟨by show decode code 167 = _; decide +kernel, rfl⟩
theorem i_law_168 {X : ev_X} : fe (M_law X) 168 .lor 1 169 := ⟨by show decode code 168 = _; decide +kernel, rfl⟩
theorem i_law_169 {X : ev_X} : fe (M_law X) 169 (.invokevirtual 19) 3 172 := ⟨by show decode code 169 = _; decide +kernel, rfl⟩
theorem i_law_172 {X : ev_X} : fb (M_law X) 172 (.if_icmp .eq) 809 175 := ⟨637, by show decode code 172 = _; decide +kernel, by decide, rfl⟩
theorem i_law_175 {X : ev_X} : fe (M_law X) 175 (.iconst 0) 1 176 := ⟨by show decode code 175 = _; decide +kernel, rfl⟩
theorem i_law_176 {X : ev_X} : fe (M_law X) 176 .ireturn 1 177 := ⟨by show decode code 176 = _; decide +kernel, rfl⟩
theorem i_law_177 {X : ev_X} : fe (M_law X) 177 (.aload_n 1) 1 178 := ⟨by show decode code 177 = _; decide +kernel, rfl⟩
theorem i_law_178 {X : ev_X} : fe (M_law X) 178 (.aload_n 0) 1 179 := ⟨by show decode code 178 = _; decide +kernel, rfl⟩
theorem i_law_179 {X : ev_X} : fe (M_law X) 179 (.iload_n 3) 1 180 := ⟨by show decode code 179 = _; decide +kernel, rfl⟩
theorem i_law_180 {X : ev_X} : fe (M_law X) 180 (.iconst 1) 1 181 := ⟨by show decode code 180 = _; decide +kernel, rfl⟩
theorem i_law_181 {X : ev_X} : fe (M_law X) 181 .iadd 1 182 := ⟨by show decode code 181 = _; decide +kernel, rfl⟩
theorem i_law_182 {X : ev_X} : fe (M_law X) 182 .iaload 1 183 := ⟨by show decode code 182 = _; decide +kernel, rfl⟩
theorem i_law_183 {X : ev_X} : fe (M_law X) 183 (.aload_n 0) 1 184 := ⟨by show decode code 183 = _; decide +kernel, rfl⟩
theorem i_law_184 {X : ev_X} : fe (M_law X) 184 (.iload_n 3) 1 185 := ⟨by show decode code 184 = _; decide +kernel, rfl⟩
theorem i_law_185 {X : ev_X} : fe (M_law X) 185 (.iconst 2) 1 186 := ⟨by show decode code 185 = _; decide +kernel, rfl⟩
theorem i_law_186 {X : ev_X} : fe (M_law X) 186 .iadd 1 187 := ⟨by show decode code 186 = _; decide +kernel, rfl⟩
theorem i_law_187 {X : ev_X} : fe (M_law X) 187 .iaload 1 188 := ⟨by show decode code 187 = _; decide +kernel, rfl⟩
theorem i_law_188 {X : ev_X} : fe (M_law X) 188 (.aload_n 0) 1 189 := ⟨by show decode code 188 = _; decide +kernel, rfl⟩
theorem i_law_189 {X : ev_X} : fe (M_law X) 189 (.iload_n 3) 1 190 := ⟨by show decode code 189 = _; decide +kernel, rfl⟩
theorem i_law_190 {X : ev_X} : fe (M_law X) 190 (.iconst 3) 1 191 := ⟨by show decode code 190 = _; decide +kernel, rfl⟩
theorem i_law_191 {X : ev_X} : fe (M_law X) 191 .iadd 1 192 := ⟨by show decode code 191 = _; decide +kernel, rfl⟩
theorem i_law_192 {X : ev_X} : fe (M_law X) 192 .iaload 1 193 := ⟨by show decode code 192 = _; decide +kernel, rfl⟩
theorem i_law_193 {X : ev_X} : fe (M_law X) 193 (.aload_n 0) 1 194 := ⟨by show decode code 193 = _; decide +kernel, rfl⟩
theorem i_law_194 {X : ev_X} : fe (M_law X) 194 (.iload_n 3) 1 195 := ⟨by show decode code 194 = _; decide +kernel, rfl⟩
theorem i_law_195 {X : ev_X} : fe (M_law X) 195 (.iconst 4) 1 196 := ⟨by show decode code 195 = _; decide +kernel, rfl⟩
theorem i_law_196 {X : ev_X} : fe (M_law X) 196 .iadd 1 197 := ⟨by show decode code 196 = _; decide +kernel, rfl⟩
theorem i_law_197 {X : ev_X} : fe (M_law X) 197 .iaload 1 198 := ⟨by show decode code 197 = _; decide +kernel, rfl⟩
theorem i_law_198 {X : ev_X} : fe (M_law X) 198 (.invokevirtual 20) 3 201 := ⟨by show decode code 198 = _; decide +kernel, rfl⟩
theorem i_law_201 {X : ev_X} : fe (M_law X) 201 (.aload_n 2) 1 202 := ⟨by show decode code 201 = _; decide +kernel, rfl⟩
theorem i_law_202 {X : ev_X} : fe (M_law X) 202 (.aload_n 0) 1 203 := ⟨by show decode code 202 = _; decide +kernel, rfl⟩
theorem i_law_203 {X : ev_X} : fe (M_law X) 203 (.iload_n 3) 1 204 := ⟨by show decode code 203 = _; decide +kernel, rfl⟩
theorem i_law_204 {X : ev_X} : fe (M_law X) 204 (.iconst 1) 1 205 := ⟨by show decode code 204 = _; decide +kernel, rfl⟩
theorem i_law_205 {X : ev_X} : fe (M_law X) 205 .iadd 1 206 := ⟨by show decode code 205 = _; decide +kernel, rfl⟩
theorem i_law_206 {X : ev_X} : fe (M_law X) 206 .iaload 1 207 := ⟨by show decode code 206 = _; decide +kernel, rfl⟩
theorem i_law_207 {X : ev_X} : fe (M_law X) 207 (.aload_n 0) 1 208 := ⟨by show decode code 207 = _; decide +kernel, rfl⟩
theorem i_law_208 {X : ev_X} : fe (M_law X) 208 (.iload_n 3) 1 209 := ⟨by show decode code 208 = _; decide +kernel, rfl⟩
theorem i_law_209 {X : ev_X} : fe (M_law X) 209 (.iconst 2) 1 210 := ⟨by show decode code 209 = _; decide +kernel, rfl⟩
theorem i_law_210 {X : ev_X} : fe (M_law X) 210 .iadd 1 211 := ⟨by show decode code 210 = _; decide +kernel, rfl⟩
theorem i_law_211 {X : ev_X} : fe (M_law X) 211 .iaload 1 212 := ⟨by show decode code 211 = _; decide +kernel, rfl⟩
theorem i_law_212 {X : ev_X} : fe (M_law X) 212 (.aload_n 0) 1 213 := ⟨by show decode code 212 = _; decide +kernel, rfl⟩
theorem i_law_213 {X : ev_X} : fe (M_law X) 213 (.iload_n 3) 1 214 := ⟨by show decode code 213 = _; decide +kernel, rfl⟩
theorem i_law_214 {X : ev_X} : fe (M_law X) 214 (.iconst 3) 1 215 := ⟨by show decode code 214 = _; decide +kernel, rfl⟩
theorem i_law_215 {X : ev_X} : fe (M_law X) 215 .iadd 1 216 := ⟨by show decode code 215 = _; decide +kernel, rfl⟩
theorem i_law_216 {X : ev_X} : fe (M_law X) 216 .iaload 1 217 := ⟨by show decode code 216 = _; decide +kernel, rfl⟩
theorem i_law_217 {X : ev_X} : fe (M_law X) 217 (.aload_n 0) 1 218 := ⟨by show decode code 217 = _; decide +kernel, rfl⟩
theorem i_law_218 {X : ev_X} : fe (M_law X) 218 (.iload_n 3) 1 219 := ⟨by show decode code 218 = _; decide +kernel, rfl⟩
theorem i_law_219 {X : ev_X} : fe (M_law X) 219 (.iconst 4) 1 220 := ⟨by show decode code 219 = _; decide +kernel, rfl⟩
theorem i_law_220 {X : ev_X} : fe (M_law X) 220 .iadd 1 221 := ⟨by show decode code 220 = _; decide +kernel, rfl⟩
theorem i_law_221 {X : ev_X} : fe (M_law X) 221 .iaload 1 222 := ⟨by show decode code 221 = _; decide +kernel, rfl⟩
theorem i_law_222 {X : ev_X} : fe (M_law X) 222 (.invokevirtual 24) 3 225 := ⟨by show decode code 222 = _; decide +kernel, rfl⟩
theorem i_law_225 {X : ev_X} : fb (M_law X) 225 (.if_icmp .eq) 809 228 := ⟨584, by show decode code 225 = _; decide +kernel, by decide, rfl⟩
theorem i_law_228 {X : ev_X} : fe (M_law X) 228 (.iconst 0) 1 229 := ⟨by show decode code 228 = _; decide +kernel, rfl⟩
theorem i_law_229 {X : ev_X} : fe (M_law X) 229 .ireturn 1 230 := ⟨by show decode code 229 = _; decide +kernel, rfl⟩
theorem i_law_230 {X : ev_X} : fe (M_law X) 230 (.aload_n 1) 1 231 := ⟨by show decode code 230 = _; decide +kernel, rfl⟩
theorem i_law_231 {X : ev_X} : fe (M_law X) 231 (.aload_n 0) 1 232 := ⟨by show decode code 231 = _; decide +kernel, rfl⟩
theorem i_law_232 {X : ev_X} : fe (M_law X) 232 (.iload_n 3) 1 233 := ⟨by show decode code 232 = _; decide +kernel, rfl⟩
theorem i_law_233 {X : ev_X} : fe (M_law X) 233 (.iconst 1) 1 234 := ⟨by show decode code 233 = _; decide +kernel, rfl⟩
theorem i_law_234 {X : ev_X} : fe (M_law X) 234 .iadd 1 235 := ⟨by show decode code 234 = _; decide +kernel, rfl⟩
theorem i_law_235 {X : ev_X} : fe (M_law X) 235 .iaload 1 236 := ⟨by show decode code 235 = _; decide +kernel, rfl⟩
theorem i_law_236 {X : ev_X} : fe (M_law X) 236 (.aload_n 0) 1 237 := ⟨by show decode code 236 = _; decide +kernel, rfl⟩
theorem i_law_237 {X : ev_X} : fe (M_law X) 237 (.iload_n 3) 1 238 := ⟨by show decode code 237 = _; decide +kernel, rfl⟩
theorem i_law_238 {X : ev_X} : fe (M_law X) 238 (.iconst 2) 1 239 := ⟨by show decode code 238 = _; decide +kernel, rfl⟩
theorem i_law_239 {X : ev_X} : fe (M_law X) 239 .iadd 1 240 := ⟨by show decode code 239 = _; decide +kernel, rfl⟩
theorem i_law_240 {X : ev_X} : fe (M_law X) 240 .iaload 1 241 := ⟨by show decode code 240 = _; decide +kernel, rfl⟩
theorem i_law_241 {X : ev_X} : fe (M_law X) 241 (.aload_n 0) 1 242 := ⟨by show decode code 241 = _; decide +kernel, rfl⟩
theorem i_law_242 {X : ev_X} : fe (M_law X) 242 (.iload_n 3) 1 243 := ⟨by show decode code 242 = _; decide +kernel, rfl⟩
theorem i_law_243 {X : ev_X} : fe (M_law X) 243 (.iconst 3) 1 244 := ⟨by show decode code 243 = _; decide +kernel, rfl⟩
theorem i_law_244 {X : ev_X} : fe (M_law X) 244 .iadd 1 245 := ⟨by show decode code 244 = _; decide +kernel, rfl⟩
theorem i_law_245 {X : ev_X} : fe (M_law X) 245 .iaload 1 246 := ⟨by show decode code 245 = _; decide +kernel, rfl⟩
theorem i_law_246 {X : ev_X} : fb (M_law X) 246 (.ifCond .eq) 253 249 := ⟨7, by show decode code 246 = _; decide +kernel, by decide, rfl⟩
theorem i_law_249 {X : ev_X} : fe (M_law X) 249 (.iconst 1) 1 250 := ⟨by show decode code 249 = _; decide +kernel, rfl⟩
theorem i_law_250 {X : ev_X} : fb (M_law X) 250 .goto 254 253 := ⟨4, by show decode code 250 = _; decide +kernel, by decide, rfl⟩
theorem i_law_253 {X : ev_X} : fe (M_law X) 253 (.iconst 0) 1 254 := ⟨by show decode code 253 = _; decide +kernel, rfl⟩
theorem i_law_254 {X : ev_X} : fe (M_law X) 254 (.invokevirtual 25) 3 257 := ⟨by show decode code 254 = _; decide +kernel, rfl⟩
theorem i_law_257 {X : ev_X} : fe (M_law X) 257 (.aload_n 2) 1 258 := ⟨by show decode code 257 = _; decide +kernel, rfl⟩
theorem i_law_258 {X : ev_X} : fe (M_law X) 258 (.aload_n 0) 1 259 := ⟨by show decode code 258 = _; decide +kernel, rfl⟩
theorem i_law_259 {X : ev_X} : fe (M_law X) 259 (.iload_n 3) 1 260 := ⟨by show decode code 259 = _; decide +kernel, rfl⟩
theorem i_law_260 {X : ev_X} : fe (M_law X) 260 (.iconst 1) 1 261 := ⟨by show decode code 260 = _; decide +kernel, rfl⟩
theorem i_law_261 {X : ev_X} : fe (M_law X) 261 .iadd 1 262 := ⟨by show decode code 261 = _; decide +kernel, rfl⟩
theorem i_law_262 {X : ev_X} : fe (M_law X) 262 .iaload 1 263 := ⟨by show decode code 262 = _; decide +kernel, rfl⟩
theorem i_law_263 {X : ev_X} : fe (M_law X) 263 (.aload_n 0) 1 264 := ⟨by show decode code 263 = _; decide +kernel, rfl⟩
theorem i_law_264 {X : ev_X} : fe (M_law X) 264 (.iload_n 3) 1 265 := ⟨by show decode code 264 = _; decide +kernel, rfl⟩
theorem i_law_265 {X : ev_X} : fe (M_law X) 265 (.iconst 2) 1 266 := ⟨by show decode code 265 = _; decide +kernel, rfl⟩
theorem i_law_266 {X : ev_X} : fe (M_law X) 266 .iadd 1 267 := ⟨by show decode code 266 = _; decide +kernel, rfl⟩
theorem i_law_267 {X : ev_X} : fe (M_law X) 267 .iaload 1 268 := ⟨by show decode code 267 = _; decide +kernel, rfl⟩
theorem i_law_268 {X : ev_X} : fe (M_law X) 268 (.aload_n 0) 1 269 := ⟨by show decode code 268 = _; decide +kernel, rfl⟩
theorem i_law_269 {X : ev_X} : fe (M_law X) 269 (.iload_n 3) 1 270 := ⟨by show decode code 269 = _; decide +kernel, rfl⟩
theorem i_law_270 {X : ev_X} : fe (M_law X) 270 (.iconst 3) 1 271 := ⟨by show decode code 270 = _; decide +kernel, rfl⟩
theorem i_law_271 {X : ev_X} : fe (M_law X) 271 .iadd 1 272 := ⟨by show decode code 271 = _; decide +kernel, rfl⟩
theorem i_law_272 {X : ev_X} : fe (M_law X) 272 .iaload 1 273 := ⟨by show decode code 272 = _; decide +kernel, rfl⟩
theorem i_law_273 {X : ev_X} : fb (M_law X) 273 (.ifCond .eq) 280 276 := ⟨7, by show decode code 273 = _; decide +kernel, by decide, rfl⟩
theorem i_law_276 {X : ev_X} : fe (M_law X) 276 (.iconst 1) 1 277 := ⟨by show decode code 276 = _; decide +kernel, rfl⟩
theorem i_law_277 {X : ev_X} : fb (M_law X) 277 .goto 281 280 := ⟨4, by show decode code 277 = _; decide +kernel, by decide, rfl⟩
theorem i_law_280 {X : ev_X} : fe (M_law X) 280 (.iconst 0) 1 281 := ⟨by show decode code 280 = _; decide +kernel, rfl⟩
theorem i_law_281 {X : ev_X} : fe (M_law X) 281 (.invokevirtual 29) 3 284 := ⟨by show decode code 281 = _; decide +kernel, rfl⟩
theorem i_law_284 {X : ev_X} : fb (M_law X) 284 (.if_icmp .eq) 809 287 := ⟨525, by show decode code 284 = _; decide +kernel, by decide, rfl⟩
theorem i_law_287 {X : ev_X} : fe (M_law X) 287 (.iconst 0) 1 288 := ⟨by show decode code 287 = _; decide +kernel, rfl⟩
theorem i_law_288 {X : ev_X} : fe (M_law X) 288 .ireturn 1 289 := ⟨by show decode code 288 = _; decide +kernel, rfl⟩
theorem i_law_289 {X : ev_X} : fe (M_law X) 289 (.aload_n 1) 1 290 := ⟨by show decode code 289 = _; decide +kernel, rfl⟩
theorem i_law_290 {X : ev_X} : fe (M_law X) 290 (.aload_n 0) 1 291 := ⟨by show decode code 290 = _; decide +kernel, rfl⟩
theorem i_law_291 {X : ev_X} : fe (M_law X) 291 (.iload_n 3) 1 292 := ⟨by show decode code 291 = _; decide +kernel, rfl⟩
theorem i_law_292 {X : ev_X} : fe (M_law X) 292 (.iconst 1) 1 293 := ⟨by show decode code 292 = _; decide +kernel, rfl⟩
theorem i_law_293 {X : ev_X} : fe (M_law X) 293 .iadd 1 294 := ⟨by show decode code 293 = _; decide +kernel, rfl⟩
theorem i_law_294 {X : ev_X} : fe (M_law X) 294 .iaload 1 295 := ⟨by show decode code 294 = _; decide +kernel, rfl⟩
theorem i_law_295 {X : ev_X} : fe (M_law X) 295 .i2c 1 296 := ⟨by show decode code 295 = _; decide +kernel, rfl⟩
theorem i_law_296 {X : ev_X} : fe (M_law X) 296 (.invokevirtual 30) 3 299 := ⟨by show decode code 296 = _; decide +kernel, rfl⟩
theorem i_law_299 {X : ev_X} : fe (M_law X) 299 (.aload_n 2) 1 300 := ⟨by show decode code 299 = _; decide +kernel, rfl⟩
theorem i_law_300 {X : ev_X} : fe (M_law X) 300 (.aload_n 0) 1 301 := ⟨by show decode code 300 = _; decide +kernel, rfl⟩
theorem i_law_301 {X : ev_X} : fe (M_law X) 301 (.iload_n 3) 1 302 := ⟨by show decode code 301 = _; decide +kernel, rfl⟩
theorem i_law_302 {X : ev_X} : fe (M_law X) 302 (.iconst 1) 1 303 := ⟨by show decode code 302 = _; decide +kernel, rfl⟩
theorem i_law_303 {X : ev_X} : fe (M_law X) 303 .iadd 1 304 := ⟨by show decode code 303 = _; decide +kernel, rfl⟩
theorem i_law_304 {X : ev_X} : fe (M_law X) 304 .iaload 1 305 := ⟨by show decode code 304 = _; decide +kernel, rfl⟩
theorem i_law_305 {X : ev_X} : fe (M_law X) 305 .i2c 1 306 := ⟨by show decode code 305 = _; decide +kernel, rfl⟩
theorem i_law_306 {X : ev_X} : fe (M_law X) 306 (.invokevirtual 34) 3 309 := ⟨by show decode code 306 = _; decide +kernel, rfl⟩
theorem i_law_309 {X : ev_X} : fb (M_law X) 309 (.if_icmp .eq) 809 312 := ⟨500, by show decode code 309 = _; decide +kernel, by decide, rfl⟩
theorem i_law_312 {X : ev_X} : fe (M_law X) 312 (.iconst 0) 1 313 := ⟨by show decode code 312 = _; decide +kernel, rfl⟩
theorem i_law_313 {X : ev_X} : fe (M_law X) 313 .ireturn 1 314 := ⟨by show decode code 313 = _; decide +kernel, rfl⟩
theorem i_law_314 {X : ev_X} : fe (M_law X) 314 (.aload_n 1) 1 315 := ⟨by show decode code 314 = _; decide +kernel, rfl⟩
theorem i_law_315 {X : ev_X} : fe (M_law X) 315 (.invokevirtual 35) 3 318 := ⟨by show decode code 315 = _; decide +kernel, rfl⟩
theorem i_law_318 {X : ev_X} : fe (M_law X) 318 (.aload_n 2) 1 319 := ⟨by show decode code 318 = _; decide +kernel, rfl⟩
theorem i_law_319 {X : ev_X} : fe (M_law X) 319 (.invokevirtual 39) 3 322 := ⟨by show decode code 319 = _; decide +kernel, rfl⟩
theorem i_law_322 {X : ev_X} : fb (M_law X) 322 (.if_icmp .eq) 809 325 := ⟨487, by show decode code 322 = _; decide +kernel, by decide, rfl⟩
theorem i_law_325 {X : ev_X} : fe (M_law X) 325 (.iconst 0) 1 326 := ⟨by show decode code 325 = _; decide +kernel, rfl⟩
theorem i_law_326 {X : ev_X} : fe (M_law X) 326 .ireturn 1 327 := ⟨by show decode code 326 = _; decide +kernel, rfl⟩
theorem i_law_327 {X : ev_X} : fe (M_law X) 327 (.aload_n 1) 1 328 := ⟨by show decode code 327 = _; decide +kernel, rfl⟩
theorem i_law_328 {X : ev_X} : fe (M_law X) 328 (.aload_n 0) 1 329 := ⟨by show decode code 328 = _; decide +kernel, rfl⟩
theorem i_law_329 {X : ev_X} : fe (M_law X) 329 (.iload_n 3) 1 330 := ⟨by show decode code 329 = _; decide +kernel, rfl⟩
theorem i_law_330 {X : ev_X} : fe (M_law X) 330 (.iconst 1) 1 331 := ⟨by show decode code 330 = _; decide +kernel, rfl⟩
theorem i_law_331 {X : ev_X} : fe (M_law X) 331 .iadd 1 332 := ⟨by show decode code 331 = _; decide +kernel, rfl⟩
theorem i_law_332 {X : ev_X} : fe (M_law X) 332 .iaload 1 333 := ⟨by show decode code 332 = _; decide +kernel, rfl⟩
theorem i_law_333 {X : ev_X} : fe (M_law X) 333 (.invokevirtual 40) 3 336 := ⟨by show decode code 333 = _; decide +kernel, rfl⟩
theorem i_law_336 {X : ev_X} : fe (M_law X) 336 (.aload_n 2) 1 337 := ⟨by show decode code 336 = _; decide +kernel, rfl⟩
theorem i_law_337 {X : ev_X} : fe (M_law X) 337 (.aload_n 0) 1 338 := ⟨by show decode code 337 = _; decide +kernel, rfl⟩
theorem i_law_338 {X : ev_X} : fe (M_law X) 338 (.iload_n 3) 1 339 := ⟨by show decode code 338 = _; decide +kernel, rfl⟩
theorem i_law_339 {X : ev_X} : fe (M_law X) 339 (.iconst 1) 1 340 := ⟨by show decode code 339 = _; decide +kernel, rfl⟩
theorem i_law_340 {X : ev_X} : fe (M_law X) 340 .iadd 1 341 := ⟨by show decode code 340 = _; decide +kernel, rfl⟩
theorem i_law_341 {X : ev_X} : fe (M_law X) 341 .iaload 1 342 := ⟨by show decode code 341 = _; decide +kernel, rfl⟩
theorem i_law_342 {X : ev_X} : fe (M_law X) 342 (.invokevirtual 44) 3 345 := ⟨by show decode code 342 = _; decide +kernel, rfl⟩
theorem i_law_345 {X : ev_X} : fb (M_law X) 345 (.if_icmp .eq) 809 348 := ⟨464, by show decode code 345 = _; decide +kernel, by decide, rfl⟩
theorem i_law_348 {X : ev_X} : fe (M_law X) 348 (.iconst 0) 1 349 := ⟨by show decode code 348 = _; decide +kernel, rfl⟩
theorem i_law_349 {X : ev_X} : fe (M_law X) 349 .ireturn 1 350 := ⟨by show decode code 349 = _; decide +kernel, rfl⟩
theorem i_law_350 {X : ev_X} : fe (M_law X) 350 (.aload_n 1) 1 351 := ⟨by show decode code 350 = _; decide +kernel, rfl⟩
theorem i_law_351 {X : ev_X} : fe (M_law X) 351 (.aload_n 0) 1 352 := ⟨by show decode code 351 = _; decide +kernel, rfl⟩
theorem i_law_352 {X : ev_X} : fe (M_law X) 352 (.iload_n 3) 1 353 := ⟨by show decode code 352 = _; decide +kernel, rfl⟩
theorem i_law_353 {X : ev_X} : fe (M_law X) 353 (.iconst 1) 1 354 := ⟨by show decode code 353 = _; decide +kernel, rfl⟩
theorem i_law_354 {X : ev_X} : fe (M_law X) 354 .iadd 1 355 := ⟨by show decode code 354 = _; decide +kernel, rfl⟩
theorem i_law_355 {X : ev_X} : fe (M_law X) 355 .iaload 1 356 := ⟨by show decode code 355 = _; decide +kernel, rfl⟩
theorem i_law_356 {X : ev_X} : fe (M_law X) 356 (.invokevirtual 45) 3 359 := ⟨by show decode code 356 = _; decide +kernel, rfl⟩
theorem i_law_359 {X : ev_X} : fe (M_law X) 359 (.aload_n 2) 1 360 := ⟨by show decode code 359 = _; decide +kernel, rfl⟩
theorem i_law_360 {X : ev_X} : fe (M_law X) 360 (.aload_n 0) 1 361 := ⟨by show decode code 360 = _; decide +kernel, rfl⟩
theorem i_law_361 {X : ev_X} : fe (M_law X) 361 (.iload_n 3) 1 362 := ⟨by show decode code 361 = _; decide +kernel, rfl⟩
theorem i_law_362 {X : ev_X} : fe (M_law X) 362 (.iconst 1) 1 363 := ⟨by show decode code 362 = _; decide +kernel, rfl⟩
theorem i_law_363 {X : ev_X} : fe (M_law X) 363 .iadd 1 364 := ⟨by show decode code 363 = _; decide +kernel, rfl⟩
theorem i_law_364 {X : ev_X} : fe (M_law X) 364 .iaload 1 365 := ⟨by show decode code 364 = _; decide +kernel, rfl⟩
theorem i_law_365 {X : ev_X} : fe (M_law X) 365 (.invokevirtual 48) 3 368 := ⟨by show decode code 365 = _; decide +kernel, rfl⟩
theorem i_law_368 {X : ev_X} : fb (M_law X) 368 (.if_icmp .eq) 809 371 := ⟨441, by show decode code 368 = _; decide +kernel, by decide, rfl⟩
theorem i_law_371 {X : ev_X} : fe (M_law X) 371 (.iconst 0) 1 372 := ⟨by show decode code 371 = _; decide +kernel, rfl⟩
theorem i_law_372 {X : ev_X} : fe (M_law X) 372 .ireturn 1 373 := ⟨by show decode code 372 = _; decide +kernel, rfl⟩
theorem i_law_373 {X : ev_X} : fe (M_law X) 373 (.aload_n 1) 1 374 := ⟨by show decode code 373 = _; decide +kernel, rfl⟩
theorem i_law_374 {X : ev_X} : fe (M_law X) 374 (.aload_n 0) 1 375 := ⟨by show decode code 374 = _; decide +kernel, rfl⟩
theorem i_law_375 {X : ev_X} : fe (M_law X) 375 (.iload_n 3) 1 376 := ⟨by show decode code 375 = _; decide +kernel, rfl⟩
theorem i_law_376 {X : ev_X} : fe (M_law X) 376 (.iconst 1) 1 377 := ⟨by show decode code 376 = _; decide +kernel, rfl⟩
theorem i_law_377 {X : ev_X} : fe (M_law X) 377 .iadd 1 378 := ⟨by show decode code 377 = _; decide +kernel, rfl⟩
theorem i_law_378 {X : ev_X} : fe (M_law X) 378 .iaload 1 379 := ⟨by show decode code 378 = _; decide +kernel, rfl⟩
theorem i_law_379 {X : ev_X} : fe (M_law X) 379 (.aload_n 0) 1 380 := ⟨by show decode code 379 = _; decide +kernel, rfl⟩
theorem i_law_380 {X : ev_X} : fe (M_law X) 380 (.iload_n 3) 1 381 := ⟨by show decode code 380 = _; decide +kernel, rfl⟩
theorem i_law_381 {X : ev_X} : fe (M_law X) 381 (.iconst 2) 1 382 := ⟨by show decode code 381 = _; decide +kernel, rfl⟩
theorem i_law_382 {X : ev_X} : fe (M_law X) 382 .iadd 1 383 := ⟨by show decode code 382 = _; decide +kernel, rfl⟩
theorem i_law_383 {X : ev_X} : fe (M_law X) 383 .iaload 1 384 := ⟨by show decode code 383 = _; decide +kernel, rfl⟩
theorem i_law_384 {X : ev_X} : fe (M_law X) 384 (.aload_n 0) 1 385 := ⟨by show decode code 384 = _; decide +kernel, rfl⟩
theorem i_law_385 {X : ev_X} : fe (M_law X) 385 (.iload_n 3) 1 386 := ⟨by show decode code 385 = _; decide +kernel, rfl⟩
theorem i_law_386 {X : ev_X} : fe (M_law X) 386 (.iconst 3) 1 387 := ⟨by show decode code 386 = _; decide +kernel, rfl⟩
theorem i_law_387 {X : ev_X} : fe (M_law X) 387 .iadd 1 388 := ⟨by show decode code 387 = _; decide +kernel, rfl⟩
theorem i_law_388 {X : ev_X} : fe (M_law X) 388 .iaload 1 389 := ⟨by show decode code 388 = _; decide +kernel, rfl⟩
theorem i_law_389 {X : ev_X} : fe (M_law X) 389 (.invokevirtual 49) 3 392 := ⟨by show decode code 389 = _; decide +kernel, rfl⟩
theorem i_law_392 {X : ev_X} : fe (M_law X) 392 (.aload_n 2) 1 393 := ⟨by show decode code 392 = _; decide +kernel, rfl⟩
theorem i_law_393 {X : ev_X} : fe (M_law X) 393 (.aload_n 0) 1 394 := ⟨by show decode code 393 = _; decide +kernel, rfl⟩
theorem i_law_394 {X : ev_X} : fe (M_law X) 394 (.iload_n 3) 1 395 := ⟨by show decode code 394 = _; decide +kernel, rfl⟩
theorem i_law_395 {X : ev_X} : fe (M_law X) 395 (.iconst 1) 1 396 := ⟨by show decode code 395 = _; decide +kernel, rfl⟩
theorem i_law_396 {X : ev_X} : fe (M_law X) 396 .iadd 1 397 := ⟨by show decode code 396 = _; decide +kernel, rfl⟩
theorem i_law_397 {X : ev_X} : fe (M_law X) 397 .iaload 1 398 := ⟨by show decode code 397 = _; decide +kernel, rfl⟩
theorem i_law_398 {X : ev_X} : fe (M_law X) 398 (.aload_n 0) 1 399 := ⟨by show decode code 398 = _; decide +kernel, rfl⟩
theorem i_law_399 {X : ev_X} : fe (M_law X) 399 (.iload_n 3) 1 400 := ⟨by show decode code 399 = _; decide +kernel, rfl⟩
theorem i_law_400 {X : ev_X} : fe (M_law X) 400 (.iconst 2) 1 401 := ⟨by show decode code 400 = _; decide +kernel, rfl⟩
theorem i_law_401 {X : ev_X} : fe (M_law X) 401 .iadd 1 402 := ⟨by show decode code 401 = _; decide +kernel, rfl⟩
theorem i_law_402 {X : ev_X} : fe (M_law X) 402 .iaload 1 403 := ⟨by show decode code 402 = _; decide +kernel, rfl⟩
theorem i_law_403 {X : ev_X} : fe (M_law X) 403 (.aload_n 0) 1 404 := ⟨by show decode code 403 = _; decide +kernel, rfl⟩
theorem i_law_404 {X : ev_X} : fe (M_law X) 404 (.iload_n 3) 1 405 := ⟨by show decode code 404 = _; decide +kernel, rfl⟩
theorem i_law_405 {X : ev_X} : fe (M_law X) 405 (.iconst 3) 1 406 := ⟨by show decode code 405 = _; decide +kernel, rfl⟩
theorem i_law_406 {X : ev_X} : fe (M_law X) 406 .iadd 1 407 := ⟨by show decode code 406 = _; decide +kernel, rfl⟩
theorem i_law_407 {X : ev_X} : fe (M_law X) 407 .iaload 1 408 := ⟨by show decode code 407 = _; decide +kernel, rfl⟩
theorem i_law_408 {X : ev_X} : fe (M_law X) 408 (.invokevirtual 53) 3 411 := ⟨by show decode code 408 = _; decide +kernel, rfl⟩
theorem i_law_411 {X : ev_X} : fb (M_law X) 411 (.if_icmp .eq) 809 414 := ⟨398, by show decode code 411 = _; decide +kernel, by decide, rfl⟩
theorem i_law_414 {X : ev_X} : fe (M_law X) 414 (.iconst 0) 1 415 := ⟨by show decode code 414 = _; decide +kernel, rfl⟩
theorem i_law_415 {X : ev_X} : fe (M_law X) 415 .ireturn 1 416 := ⟨by show decode code 415 = _; decide +kernel, rfl⟩
theorem i_law_416 {X : ev_X} : fe (M_law X) 416 (.aload_n 1) 1 417 := ⟨by show decode code 416 = _; decide +kernel, rfl⟩
theorem i_law_417 {X : ev_X} : fe (M_law X) 417 (.aload_n 0) 1 418 := ⟨by show decode code 417 = _; decide +kernel, rfl⟩
theorem i_law_418 {X : ev_X} : fe (M_law X) 418 (.iload_n 3) 1 419 := ⟨by show decode code 418 = _; decide +kernel, rfl⟩
theorem i_law_419 {X : ev_X} : fe (M_law X) 419 (.iconst 1) 1 420 := ⟨by show decode code 419 = _; decide +kernel, rfl⟩
theorem i_law_420 {X : ev_X} : fe (M_law X) 420 .iadd 1 421 := ⟨by show decode code 420 = _; decide +kernel, rfl⟩
theorem i_law_421 {X : ev_X} : fe (M_law X) 421 .iaload 1 422 := ⟨by show decode code 421 = _; decide +kernel, rfl⟩
theorem i_law_422 {X : ev_X} : fe (M_law X) 422 (.aload_n 0) 1 423 := ⟨by show decode code 422 = _; decide +kernel, rfl⟩
theorem i_law_423 {X : ev_X} : fe (M_law X) 423 (.iload_n 3) 1 424 := ⟨by show decode code 423 = _; decide +kernel, rfl⟩
theorem i_law_424 {X : ev_X} : fe (M_law X) 424 (.iconst 2) 1 425 := ⟨by show decode code 424 = _; decide +kernel, rfl⟩
theorem i_law_425 {X : ev_X} : fe (M_law X) 425 .iadd 1 426 := ⟨by show decode code 425 = _; decide +kernel, rfl⟩
theorem i_law_426 {X : ev_X} : fe (M_law X) 426 .iaload 1 427 := ⟨by show decode code 426 = _; decide +kernel, rfl⟩
theorem i_law_427 {X : ev_X} : fe (M_law X) 427 (.invokevirtual 54) 3 430 := ⟨by show decode code 427 = _; decide +kernel, rfl⟩
theorem i_law_430 {X : ev_X} : fe (M_law X) 430 (.aload_n 2) 1 431 := ⟨by show decode code 430 = _; decide +kernel, rfl⟩
theorem i_law_431 {X : ev_X} : fe (M_law X) 431 (.aload_n 0) 1 432 := ⟨by show decode code 431 = _; decide +kernel, rfl⟩
theorem i_law_432 {X : ev_X} : fe (M_law X) 432 (.iload_n 3) 1 433 := ⟨by show decode code 432 = _; decide +kernel, rfl⟩
theorem i_law_433 {X : ev_X} : fe (M_law X) 433 (.iconst 1) 1 434 := ⟨by show decode code 433 = _; decide +kernel, rfl⟩
theorem i_law_434 {X : ev_X} : fe (M_law X) 434 .iadd 1 435 := ⟨by show decode code 434 = _; decide +kernel, rfl⟩
theorem i_law_435 {X : ev_X} : fe (M_law X) 435 .iaload 1 436 := ⟨by show decode code 435 = _; decide +kernel, rfl⟩
theorem i_law_436 {X : ev_X} : fe (M_law X) 436 (.aload_n 0) 1 437 := ⟨by show decode code 436 = _; decide +kernel, rfl⟩
theorem i_law_437 {X : ev_X} : fe (M_law X) 437 (.iload_n 3) 1 438 := ⟨by show decode code 437 = _; decide +kernel, rfl⟩
theorem i_law_438 {X : ev_X} : fe (M_law X) 438 (.iconst 2) 1 439 := ⟨by show decode code 438 = _; decide +kernel, rfl⟩
theorem i_law_439 {X : ev_X} : fe (M_law X) 439 .iadd 1 440 := ⟨by show decode code 439 = _; decide +kernel, rfl⟩
theorem i_law_440 {X : ev_X} : fe (M_law X) 440 .iaload 1 441 := ⟨by show decode code 440 = _; decide +kernel, rfl⟩
theorem i_law_441 {X : ev_X} : fe (M_law X) 441 (.invokevirtual 58) 3 444 := ⟨by show decode code 441 = _; decide +kernel, rfl⟩
theorem i_law_444 {X : ev_X} : fb (M_law X) 444 (.if_icmp .eq) 809 447 := ⟨365, by show decode code 444 = _; decide +kernel, by decide, rfl⟩
theorem i_law_447 {X : ev_X} : fe (M_law X) 447 (.iconst 0) 1 448 := ⟨by show decode code 447 = _; decide +kernel, rfl⟩
theorem i_law_448 {X : ev_X} : fe (M_law X) 448 .ireturn 1 449 := ⟨by show decode code 448 = _; decide +kernel, rfl⟩
theorem i_law_449 {X : ev_X} : fe (M_law X) 449 (.aload_n 1) 1 450 := ⟨by show decode code 449 = _; decide +kernel, rfl⟩
theorem i_law_450 {X : ev_X} : fe (M_law X) 450 (.aload_n 0) 1 451 := ⟨by show decode code 450 = _; decide +kernel, rfl⟩
theorem i_law_451 {X : ev_X} : fe (M_law X) 451 (.iload_n 3) 1 452 := ⟨by show decode code 451 = _; decide +kernel, rfl⟩
theorem i_law_452 {X : ev_X} : fe (M_law X) 452 (.iconst 1) 1 453 := ⟨by show decode code 452 = _; decide +kernel, rfl⟩
theorem i_law_453 {X : ev_X} : fe (M_law X) 453 .iadd 1 454 := ⟨by show decode code 453 = _; decide +kernel, rfl⟩
theorem i_law_454 {X : ev_X} : fe (M_law X) 454 .iaload 1 455 := ⟨by show decode code 454 = _; decide +kernel, rfl⟩
theorem i_law_455 {X : ev_X} : fe (M_law X) 455 (.aload_n 0) 1 456 := ⟨by show decode code 455 = _; decide +kernel, rfl⟩
theorem i_law_456 {X : ev_X} : fe (M_law X) 456 (.iload_n 3) 1 457 := ⟨by show decode code 456 = _; decide +kernel, rfl⟩
theorem i_law_457 {X : ev_X} : fe (M_law X) 457 (.iconst 2) 1 458 := ⟨by show decode code 457 = _; decide +kernel, rfl⟩
theorem i_law_458 {X : ev_X} : fe (M_law X) 458 .iadd 1 459 := ⟨by show decode code 458 = _; decide +kernel, rfl⟩
theorem i_law_459 {X : ev_X} : fe (M_law X) 459 .iaload 1 460 := ⟨by show decode code 459 = _; decide +kernel, rfl⟩
theorem i_law_460 {X : ev_X} : fe (M_law X) 460 (.invokevirtual 59) 3 463 := ⟨by show decode code 460 = _; decide +kernel, rfl⟩
theorem i_law_463 {X : ev_X} : fe (M_law X) 463 (.aload_n 2) 1 464 := ⟨by show decode code 463 = _; decide +kernel, rfl⟩
theorem i_law_464 {X : ev_X} : fe (M_law X) 464 (.aload_n 0) 1 465 := ⟨by show decode code 464 = _; decide +kernel, rfl⟩
theorem i_law_465 {X : ev_X} : fe (M_law X) 465 (.iload_n 3) 1 466 := ⟨by show decode code 465 = _; decide +kernel, rfl⟩
theorem i_law_466 {X : ev_X} : fe (M_law X) 466 (.iconst 1) 1 467 := ⟨by show decode code 466 = _; decide +kernel, rfl⟩
theorem i_law_467 {X : ev_X} : fe (M_law X) 467 .iadd 1 468 := ⟨by show decode code 467 = _; decide +kernel, rfl⟩
theorem i_law_468 {X : ev_X} : fe (M_law X) 468 .iaload 1 469 := ⟨by show decode code 468 = _; decide +kernel, rfl⟩
theorem i_law_469 {X : ev_X} : fe (M_law X) 469 (.aload_n 0) 1 470 := ⟨by show decode code 469 = _; decide +kernel, rfl⟩
theorem i_law_470 {X : ev_X} : fe (M_law X) 470 (.iload_n 3) 1 471 := ⟨by show decode code 470 = _; decide +kernel, rfl⟩
theorem i_law_471 {X : ev_X} : fe (M_law X) 471 (.iconst 2) 1 472 := ⟨by show decode code 471 = _; decide +kernel, rfl⟩
theorem i_law_472 {X : ev_X} : fe (M_law X) 472 .iadd 1 473 := ⟨by show decode code 472 = _; decide +kernel, rfl⟩
theorem i_law_473 {X : ev_X} : fe (M_law X) 473 .iaload 1 474 := ⟨by show decode code 473 = _; decide +kernel, rfl⟩
theorem i_law_474 {X : ev_X} : fe (M_law X) 474 (.invokevirtual 62) 3 477 := ⟨by show decode code 474 = _; decide +kernel, rfl⟩
theorem i_law_477 {X : ev_X} : fb (M_law X) 477 (.if_icmp .eq) 809 480 := ⟨332, by show decode code 477 = _; decide +kernel, by decide, rfl⟩
theorem i_law_480 {X : ev_X} : fe (M_law X) 480 (.iconst 0) 1 481 := ⟨by show decode code 480 = _; decide +kernel, rfl⟩
theorem i_law_481 {X : ev_X} : fe (M_law X) 481 .ireturn 1 482 := ⟨by show decode code 481 = _; decide +kernel, rfl⟩
theorem i_law_482 {X : ev_X} : fe (M_law X) 482 (.aload_n 1) 1 483 := ⟨by show decode code 482 = _; decide +kernel, rfl⟩
theorem i_law_483 {X : ev_X} : fe (M_law X) 483 (.aload_n 0) 1 484 := ⟨by show decode code 483 = _; decide +kernel, rfl⟩
theorem i_law_484 {X : ev_X} : fe (M_law X) 484 (.iload_n 3) 1 485 := ⟨by show decode code 484 = _; decide +kernel, rfl⟩
theorem i_law_485 {X : ev_X} : fe (M_law X) 485 (.iconst 1) 1 486 := ⟨by show decode code 485 = _; decide +kernel, rfl⟩
theorem i_law_486 {X : ev_X} : fe (M_law X) 486 .iadd 1 487 := ⟨by show decode code 486 = _; decide +kernel, rfl⟩
theorem i_law_487 {X : ev_X} : fe (M_law X) 487 .iaload 1 488 := ⟨by show decode code 487 = _; decide +kernel, rfl⟩
theorem i_law_488 {X : ev_X} : fe (M_law X) 488 (.aload_n 0) 1 489 := ⟨by show decode code 488 = _; decide +kernel, rfl⟩
theorem i_law_489 {X : ev_X} : fe (M_law X) 489 (.iload_n 3) 1 490 := ⟨by show decode code 489 = _; decide +kernel, rfl⟩
theorem i_law_490 {X : ev_X} : fe (M_law X) 490 (.iconst 2) 1 491 := ⟨by show decode code 490 = _; decide +kernel, rfl⟩
theorem i_law_491 {X : ev_X} : fe (M_law X) 491 .iadd 1 492 := ⟨by show decode code 491 = _; decide +kernel, rfl⟩
theorem i_law_492 {X : ev_X} : fe (M_law X) 492 .iaload 1 493 := ⟨by show decode code 492 = _; decide +kernel, rfl⟩
theorem i_law_493 {X : ev_X} : fe (M_law X) 493 (.aload_n 0) 1 494 := ⟨by show decode code 493 = _; decide +kernel, rfl⟩
theorem i_law_494 {X : ev_X} : fe (M_law X) 494 (.iload_n 3) 1 495 := ⟨by show decode code 494 = _; decide +kernel, rfl⟩
theorem i_law_495 {X : ev_X} : fe (M_law X) 495 (.iconst 3) 1 496 := ⟨by show decode code 495 = _; decide +kernel, rfl⟩
theorem i_law_496 {X : ev_X} : fe (M_law X) 496 .iadd 1 497 := ⟨by show decode code 496 = _; decide +kernel, rfl⟩
theorem i_law_497 {X : ev_X} : fe (M_law X) 497 .iaload 1 498 := ⟨by show decode code 497 = _; decide +kernel, rfl⟩
theorem i_law_498 {X : ev_X} : fe (M_law X) 498 (.invokevirtual 63) 3 501 := ⟨by show decode code 498 = _; decide +kernel, rfl⟩
theorem i_law_501 {X : ev_X} : fe (M_law X) 501 (.aload_n 2) 1 502 := ⟨by show decode code 501 = _; decide +kernel, rfl⟩
theorem i_law_502 {X : ev_X} : fe (M_law X) 502 (.aload_n 0) 1 503 := ⟨by show decode code 502 = _; decide +kernel, rfl⟩
theorem i_law_503 {X : ev_X} : fe (M_law X) 503 (.iload_n 3) 1 504 := ⟨by show decode code 503 = _; decide +kernel, rfl⟩
theorem i_law_504 {X : ev_X} : fe (M_law X) 504 (.iconst 1) 1 505 := ⟨by show decode code 504 = _; decide +kernel, rfl⟩
theorem i_law_505 {X : ev_X} : fe (M_law X) 505 .iadd 1 506 := ⟨by show decode code 505 = _; decide +kernel, rfl⟩
theorem i_law_506 {X : ev_X} : fe (M_law X) 506 .iaload 1 507 := ⟨by show decode code 506 = _; decide +kernel, rfl⟩
theorem i_law_507 {X : ev_X} : fe (M_law X) 507 (.aload_n 0) 1 508 := ⟨by show decode code 507 = _; decide +kernel, rfl⟩
theorem i_law_508 {X : ev_X} : fe (M_law X) 508 (.iload_n 3) 1 509 := ⟨by show decode code 508 = _; decide +kernel, rfl⟩
theorem i_law_509 {X : ev_X} : fe (M_law X) 509 (.iconst 2) 1 510 := ⟨by show decode code 509 = _; decide +kernel, rfl⟩
theorem i_law_510 {X : ev_X} : fe (M_law X) 510 .iadd 1 511 := ⟨by show decode code 510 = _; decide +kernel, rfl⟩
theorem i_law_511 {X : ev_X} : fe (M_law X) 511 .iaload 1 512 := ⟨by show decode code 511 = _; decide +kernel, rfl⟩
theorem i_law_512 {X : ev_X} : fe (M_law X) 512 (.aload_n 0) 1 513 := ⟨by show decode code 512 = _; decide +kernel, rfl⟩
theorem i_law_513 {X : ev_X} : fe (M_law X) 513 (.iload_n 3) 1 514 := ⟨by show decode code 513 = _; decide +kernel, rfl⟩
theorem i_law_514 {X : ev_X} : fe (M_law X) 514 (.iconst 3) 1 515 := ⟨by show decode code 514 = _; decide +kernel, rfl⟩
theorem i_law_515 {X : ev_X} : fe (M_law X) 515 .iadd 1 516 := ⟨by show decode code 515 = _; decide +kernel, rfl⟩
theorem i_law_516 {X : ev_X} : fe (M_law X) 516 .iaload 1 517 := ⟨by show decode code 516 = _; decide +kernel, rfl⟩
theorem i_law_517 {X : ev_X} : fe (M_law X) 517 (.invokevirtual 67) 3 520 := ⟨by show decode code 517 = _; decide +kernel, rfl⟩
theorem i_law_520 {X : ev_X} : fb (M_law X) 520 (.if_icmp .eq) 809 523 := ⟨289, by show decode code 520 = _; decide +kernel, by decide, rfl⟩
theorem i_law_523 {X : ev_X} : fe (M_law X) 523 (.iconst 0) 1 524 := ⟨by show decode code 523 = _; decide +kernel, rfl⟩
theorem i_law_524 {X : ev_X} : fe (M_law X) 524 .ireturn 1 525 := ⟨by show decode code 524 = _; decide +kernel, rfl⟩
theorem i_law_525 {X : ev_X} : fe (M_law X) 525 (.aload_n 1) 1 526 := ⟨by show decode code 525 = _; decide +kernel, rfl⟩
theorem i_law_526 {X : ev_X} : fe (M_law X) 526 (.aload_n 0) 1 527 := ⟨by show decode code 526 = _; decide +kernel, rfl⟩
theorem i_law_527 {X : ev_X} : fe (M_law X) 527 (.iload_n 3) 1 528 := ⟨by show decode code 527 = _; decide +kernel, rfl⟩
theorem i_law_528 {X : ev_X} : fe (M_law X) 528 (.iconst 1) 1 529 := ⟨by show decode code 528 = _; decide +kernel, rfl⟩
theorem i_law_529 {X : ev_X} : fe (M_law X) 529 .iadd 1 530 := ⟨by show decode code 529 = _; decide +kernel, rfl⟩
theorem i_law_530 {X : ev_X} : fe (M_law X) 530 .iaload 1 531 := ⟨by show decode code 530 = _; decide +kernel, rfl⟩
theorem i_law_531 {X : ev_X} : fe (M_law X) 531 (.aload_n 0) 1 532 := ⟨by show decode code 531 = _; decide +kernel, rfl⟩
theorem i_law_532 {X : ev_X} : fe (M_law X) 532 (.iload_n 3) 1 533 := ⟨by show decode code 532 = _; decide +kernel, rfl⟩
theorem i_law_533 {X : ev_X} : fe (M_law X) 533 (.iconst 2) 1 534 := ⟨by show decode code 533 = _; decide +kernel, rfl⟩
theorem i_law_534 {X : ev_X} : fe (M_law X) 534 .iadd 1 535 := ⟨by show decode code 534 = _; decide +kernel, rfl⟩
theorem i_law_535 {X : ev_X} : fe (M_law X) 535 .iaload 1 536 := ⟨by show decode code 535 = _; decide +kernel, rfl⟩
theorem i_law_536 {X : ev_X} : fe (M_law X) 536 (.invokevirtual 68) 3 539 := ⟨by show decode code 536 = _; decide +kernel, rfl⟩
theorem i_law_539 {X : ev_X} : fe (M_law X) 539 (.aload_n 2) 1 540 := ⟨by show decode code 539 = _; decide +kernel, rfl⟩
theorem i_law_540 {X : ev_X} : fe (M_law X) 540 (.aload_n 0) 1 541 := ⟨by show decode code 540 = _; decide +kernel, rfl⟩
theorem i_law_541 {X : ev_X} : fe (M_law X) 541 (.iload_n 3) 1 542 := ⟨by show decode code 541 = _; decide +kernel, rfl⟩
theorem i_law_542 {X : ev_X} : fe (M_law X) 542 (.iconst 1) 1 543 := ⟨by show decode code 542 = _; decide +kernel, rfl⟩
theorem i_law_543 {X : ev_X} : fe (M_law X) 543 .iadd 1 544 := ⟨by show decode code 543 = _; decide +kernel, rfl⟩
theorem i_law_544 {X : ev_X} : fe (M_law X) 544 .iaload 1 545 := ⟨by show decode code 544 = _; decide +kernel, rfl⟩
theorem i_law_545 {X : ev_X} : fe (M_law X) 545 (.aload_n 0) 1 546 := ⟨by show decode code 545 = _; decide +kernel, rfl⟩
theorem i_law_546 {X : ev_X} : fe (M_law X) 546 (.iload_n 3) 1 547 := ⟨by show decode code 546 = _; decide +kernel, rfl⟩
theorem i_law_547 {X : ev_X} : fe (M_law X) 547 (.iconst 2) 1 548 := ⟨by show decode code 547 = _; decide +kernel, rfl⟩
theorem i_law_548 {X : ev_X} : fe (M_law X) 548 .iadd 1 549 := ⟨by show decode code 548 = _; decide +kernel, rfl⟩
theorem i_law_549 {X : ev_X} : fe (M_law X) 549 .iaload 1 550 := ⟨by show decode code 549 = _; decide +kernel, rfl⟩
theorem i_law_550 {X : ev_X} : fe (M_law X) 550 (.invokevirtual 72) 3 553 := ⟨by show decode code 550 = _; decide +kernel, rfl⟩
theorem i_law_553 {X : ev_X} : fb (M_law X) 553 (.if_icmp .eq) 809 556 := ⟨256, by show decode code 553 = _; decide +kernel, by decide, rfl⟩
theorem i_law_556 {X : ev_X} : fe (M_law X) 556 (.iconst 0) 1 557 := ⟨by show decode code 556 = _; decide +kernel, rfl⟩
theorem i_law_557 {X : ev_X} : fe (M_law X) 557 .ireturn 1 558 := ⟨by show decode code 557 = _; decide +kernel, rfl⟩
theorem i_law_558 {X : ev_X} : fe (M_law X) 558 (.aload_n 1) 1 559 := ⟨by show decode code 558 = _; decide +kernel, rfl⟩
theorem i_law_559 {X : ev_X} : fe (M_law X) 559 (.aload_n 0) 1 560 := ⟨by show decode code 559 = _; decide +kernel, rfl⟩
theorem i_law_560 {X : ev_X} : fe (M_law X) 560 (.iload_n 3) 1 561 := ⟨by show decode code 560 = _; decide +kernel, rfl⟩
theorem i_law_561 {X : ev_X} : fe (M_law X) 561 (.iconst 1) 1 562 := ⟨by show decode code 561 = _; decide +kernel, rfl⟩
theorem i_law_562 {X : ev_X} : fe (M_law X) 562 .iadd 1 563 := ⟨by show decode code 562 = _; decide +kernel, rfl⟩
theorem i_law_563 {X : ev_X} : fe (M_law X) 563 .iaload 1 564 := ⟨by show decode code 563 = _; decide +kernel, rfl⟩
theorem i_law_564 {X : ev_X} : fe (M_law X) 564 (.invokevirtual 73) 3 567 := ⟨by show decode code 564 = _; decide +kernel, rfl⟩
theorem i_law_567 {X : ev_X} : fe (M_law X) 567 (.aload_n 2) 1 568 := ⟨by show decode code 567 = _; decide +kernel, rfl⟩
theorem i_law_568 {X : ev_X} : fe (M_law X) 568 (.aload_n 0) 1 569 := ⟨by show decode code 568 = _; decide +kernel, rfl⟩
theorem i_law_569 {X : ev_X} : fe (M_law X) 569 (.iload_n 3) 1 570 := ⟨by show decode code 569 = _; decide +kernel, rfl⟩
theorem i_law_570 {X : ev_X} : fe (M_law X) 570 (.iconst 1) 1 571 := ⟨by show decode code 570 = _; decide +kernel, rfl⟩
theorem i_law_571 {X : ev_X} : fe (M_law X) 571 .iadd 1 572 := ⟨by show decode code 571 = _; decide +kernel, rfl⟩
theorem i_law_572 {X : ev_X} : fe (M_law X) 572 .iaload 1 573 := ⟨by show decode code 572 = _; decide +kernel, rfl⟩
theorem i_law_573 {X : ev_X} : fe (M_law X) 573 (.invokevirtual 76) 3 576 := ⟨by show decode code 573 = _; decide +kernel, rfl⟩
theorem i_law_576 {X : ev_X} : fb (M_law X) 576 (.if_icmp .eq) 809 579 := ⟨233, by show decode code 576 = _; decide +kernel, by decide, rfl⟩
theorem i_law_579 {X : ev_X} : fe (M_law X) 579 (.iconst 0) 1 580 := ⟨by show decode code 579 = _; decide +kernel, rfl⟩
theorem i_law_580 {X : ev_X} : fe (M_law X) 580 .ireturn 1 581 := ⟨by show decode code 580 = _; decide +kernel, rfl⟩
theorem i_law_581 {X : ev_X} : fe (M_law X) 581 (.aload_n 1) 1 582 := ⟨by show decode code 581 = _; decide +kernel, rfl⟩
theorem i_law_582 {X : ev_X} : fe (M_law X) 582 (.aload_n 0) 1 583 := ⟨by show decode code 582 = _; decide +kernel, rfl⟩
theorem i_law_583 {X : ev_X} : fe (M_law X) 583 (.iload_n 3) 1 584 := ⟨by show decode code 583 = _; decide +kernel, rfl⟩
theorem i_law_584 {X : ev_X} : fe (M_law X) 584 (.iconst 1) 1 585 := ⟨by show decode code 584 = _; decide +kernel, rfl⟩
theorem i_law_585 {X : ev_X} : fe (M_law X) 585 .iadd 1 586 := ⟨by show decode code 585 = _; decide +kernel, rfl⟩
theorem i_law_586 {X : ev_X} : fe (M_law X) 586 .iaload 1 587 := ⟨by show decode code 586 = _; decide +kernel, rfl⟩
theorem i_law_587 {X : ev_X} : fe (M_law X) 587 (.aload_n 0) 1 588 := ⟨by show decode code 587 = _; decide +kernel, rfl⟩
theorem i_law_588 {X : ev_X} : fe (M_law X) 588 (.iload_n 3) 1 589 := ⟨by show decode code 588 = _; decide +kernel, rfl⟩
theorem i_law_589 {X : ev_X} : fe (M_law X) 589 (.iconst 2) 1 590 := ⟨by show decode code 589 = _; decide +kernel, rfl⟩
theorem i_law_590 {X : ev_X} : fe (M_law X) 590 .iadd 1 591 := ⟨by show decode code 590 = _; decide +kernel, rfl⟩
theorem i_law_591 {X : ev_X} : fe (M_law X) 591 .iaload 1 592 := ⟨by show decode code 591 = _; decide +kernel, rfl⟩
theorem i_law_592 {X : ev_X} : fe (M_law X) 592 (.invokevirtual 77) 3 595 := ⟨by show decode code 592 = _; decide +kernel, rfl⟩
theorem i_law_595 {X : ev_X} : fe (M_law X) 595 (.aload_n 2) 1 596 := ⟨by show decode code 595 = _; decide +kernel, rfl⟩
theorem i_law_596 {X : ev_X} : fe (M_law X) 596 (.aload_n 0) 1 597 := ⟨by show decode code 596 = _; decide +kernel, rfl⟩
theorem i_law_597 {X : ev_X} : fe (M_law X) 597 (.iload_n 3) 1 598 := ⟨by show decode code 597 = _; decide +kernel, rfl⟩
theorem i_law_598 {X : ev_X} : fe (M_law X) 598 (.iconst 1) 1 599 := ⟨by show decode code 598 = _; decide +kernel, rfl⟩
theorem i_law_599 {X : ev_X} : fe (M_law X) 599 .iadd 1 600 := ⟨by show decode code 599 = _; decide +kernel, rfl⟩
theorem i_law_600 {X : ev_X} : fe (M_law X) 600 .iaload 1 601 := ⟨by show decode code 600 = _; decide +kernel, rfl⟩
theorem i_law_601 {X : ev_X} : fe (M_law X) 601 (.aload_n 0) 1 602 := ⟨by show decode code 601 = _; decide +kernel, rfl⟩
theorem i_law_602 {X : ev_X} : fe (M_law X) 602 (.iload_n 3) 1 603 := ⟨by show decode code 602 = _; decide +kernel, rfl⟩
theorem i_law_603 {X : ev_X} : fe (M_law X) 603 (.iconst 2) 1 604 := ⟨by show decode code 603 = _; decide +kernel, rfl⟩
theorem i_law_604 {X : ev_X} : fe (M_law X) 604 .iadd 1 605 := ⟨by show decode code 604 = _; decide +kernel, rfl⟩
theorem i_law_605 {X : ev_X} : fe (M_law X) 605 .iaload 1 606 := ⟨by show decode code 605 = _; decide +kernel, rfl⟩
theorem i_law_606 {X : ev_X} : fe (M_law X) 606 (.invokevirtual 80) 3 609 := ⟨by show decode code 606 = _; decide +kernel, rfl⟩
theorem i_law_609 {X : ev_X} : fb (M_law X) 609 (.if_icmp .eq) 809 612 := ⟨200, by show decode code 609 = _; decide +kernel, by decide, rfl⟩
theorem i_law_612 {X : ev_X} : fe (M_law X) 612 (.iconst 0) 1 613 := ⟨by show decode code 612 = _; decide +kernel, rfl⟩
theorem i_law_613 {X : ev_X} : fe (M_law X) 613 .ireturn 1 614 := ⟨by show decode code 613 = _; decide +kernel, rfl⟩
theorem i_law_614 {X : ev_X} : fe (M_law X) 614 (.aload_n 1) 1 615 := ⟨by show decode code 614 = _; decide +kernel, rfl⟩
theorem i_law_615 {X : ev_X} : fe (M_law X) 615 (.aload_n 0) 1 616 := ⟨by show decode code 615 = _; decide +kernel, rfl⟩
theorem i_law_616 {X : ev_X} : fe (M_law X) 616 (.iload_n 3) 1 617 := ⟨by show decode code 616 = _; decide +kernel, rfl⟩
theorem i_law_617 {X : ev_X} : fe (M_law X) 617 (.iconst 1) 1 618 := ⟨by show decode code 617 = _; decide +kernel, rfl⟩
theorem i_law_618 {X : ev_X} : fe (M_law X) 618 .iadd 1 619 := ⟨by show decode code 618 = _; decide +kernel, rfl⟩
theorem i_law_619 {X : ev_X} : fe (M_law X) 619 .iaload 1 620 := ⟨by show decode code 619 = _; decide +kernel, rfl⟩
theorem i_law_620 {X : ev_X} : fe (M_law X) 620 (.aload_n 0) 1 621 := ⟨by show decode code 620 = _; decide +kernel, rfl⟩
theorem i_law_621 {X : ev_X} : fe (M_law X) 621 (.iload_n 3) 1 622 := ⟨by show decode code 621 = _; decide +kernel, rfl⟩
theorem i_law_622 {X : ev_X} : fe (M_law X) 622 (.iconst 2) 1 623 := ⟨by show decode code 622 = _; decide +kernel, rfl⟩
theorem i_law_623 {X : ev_X} : fe (M_law X) 623 .iadd 1 624 := ⟨by show decode code 623 = _; decide +kernel, rfl⟩
theorem i_law_624 {X : ev_X} : fe (M_law X) 624 .iaload 1 625 := ⟨by show decode code 624 = _; decide +kernel, rfl⟩
theorem i_law_625 {X : ev_X} : fe (M_law X) 625 (.invokevirtual 81) 3 628 := ⟨by show decode code 625 = _; decide +kernel, rfl⟩
theorem i_law_628 {X : ev_X} : fe (M_law X) 628 (.aload_n 2) 1 629 := ⟨by show decode code 628 = _; decide +kernel, rfl⟩
theorem i_law_629 {X : ev_X} : fe (M_law X) 629 (.aload_n 0) 1 630 := ⟨by show decode code 629 = _; decide +kernel, rfl⟩
theorem i_law_630 {X : ev_X} : fe (M_law X) 630 (.iload_n 3) 1 631 := ⟨by show decode code 630 = _; decide +kernel, rfl⟩
theorem i_law_631 {X : ev_X} : fe (M_law X) 631 (.iconst 1) 1 632 := ⟨by show decode code 631 = _; decide +kernel, rfl⟩
theorem i_law_632 {X : ev_X} : fe (M_law X) 632 .iadd 1 633 := ⟨by show decode code 632 = _; decide +kernel, rfl⟩
theorem i_law_633 {X : ev_X} : fe (M_law X) 633 .iaload 1 634 := ⟨by show decode code 633 = _; decide +kernel, rfl⟩
theorem i_law_634 {X : ev_X} : fe (M_law X) 634 (.aload_n 0) 1 635 := ⟨by show decode code 634 = _; decide +kernel, rfl⟩
theorem i_law_635 {X : ev_X} : fe (M_law X) 635 (.iload_n 3) 1 636 := ⟨by show decode code 635 = _; decide +kernel, rfl⟩
theorem i_law_636 {X : ev_X} : fe (M_law X) 636 (.iconst 2) 1 637 := ⟨by show decode code 636 = _; decide +kernel, rfl⟩
theorem i_law_637 {X : ev_X} : fe (M_law X) 637 .iadd 1 638 := ⟨by show decode code 637 = _; decide +kernel, rfl⟩
theorem i_law_638 {X : ev_X} : fe (M_law X) 638 .iaload 1 639 := ⟨by show decode code 638 = _; decide +kernel, rfl⟩
theorem i_law_639 {X : ev_X} : fe (M_law X) 639 (.invokevirtual 84) 3 642 := ⟨by show decode code 639 = _; decide +kernel, rfl⟩
theorem i_law_642 {X : ev_X} : fb (M_law X) 642 (.if_icmp .eq) 809 645 := ⟨167, by show decode code 642 = _; decide +kernel, by decide, rfl⟩
theorem i_law_645 {X : ev_X} : fe (M_law X) 645 (.iconst 0) 1 646 := ⟨by show decode code 645 = _; decide +kernel, rfl⟩
theorem i_law_646 {X : ev_X} : fe (M_law X) 646 .ireturn 1 647 := ⟨by show decode code 646 = _; decide +kernel, rfl⟩
theorem i_law_647 {X : ev_X} : fe (M_law X) 647 (.aload_n 1) 1 648 := ⟨by show decode code 647 = _; decide +kernel, rfl⟩
theorem i_law_648 {X : ev_X} : fe (M_law X) 648 (.invokevirtual 85) 3 651 := ⟨by show decode code 648 = _; decide +kernel, rfl⟩
theorem i_law_651 {X : ev_X} : fe (M_law X) 651 (.aload_n 2) 1 652 := ⟨by show decode code 651 = _; decide +kernel, rfl⟩
theorem i_law_652 {X : ev_X} : fe (M_law X) 652 (.invokevirtual 88) 3 655 := ⟨by show decode code 652 = _; decide +kernel, rfl⟩
theorem i_law_655 {X : ev_X} : fb (M_law X) 655 (.if_icmp .eq) 809 658 := ⟨154, by show decode code 655 = _; decide +kernel, by decide, rfl⟩
theorem i_law_658 {X : ev_X} : fe (M_law X) 658 (.iconst 0) 1 659 := ⟨by show decode code 658 = _; decide +kernel, rfl⟩
theorem i_law_659 {X : ev_X} : fe (M_law X) 659 .ireturn 1 660 := ⟨by show decode code 659 = _; decide +kernel, rfl⟩
theorem i_law_660 {X : ev_X} : fe (M_law X) 660 (.aload_n 1) 1 661 := ⟨by show decode code 660 = _; decide +kernel, rfl⟩
theorem i_law_661 {X : ev_X} : fe (M_law X) 661 (.aload_n 0) 1 662 := ⟨by show decode code 661 = _; decide +kernel, rfl⟩
theorem i_law_662 {X : ev_X} : fe (M_law X) 662 (.iload_n 3) 1 663 := ⟨by show decode code 662 = _; decide +kernel, rfl⟩
theorem i_law_663 {X : ev_X} : fe (M_law X) 663 (.iconst 1) 1 664 := ⟨by show decode code 663 = _; decide +kernel, rfl⟩
theorem i_law_664 {X : ev_X} : fe (M_law X) 664 .iadd 1 665 := ⟨by show decode code 664 = _; decide +kernel, rfl⟩
theorem i_law_665 {X : ev_X} : fe (M_law X) 665 .iaload 1 666 := ⟨by show decode code 665 = _; decide +kernel, rfl⟩
theorem i_law_666 {X : ev_X} : fe (M_law X) 666 (.invokevirtual 89) 3 669 := ⟨by show decode code 666 = _; decide +kernel, rfl⟩
theorem i_law_669 {X : ev_X} : fe (M_law X) 669 (.aload_n 2) 1 670 := ⟨by show decode code 669 = _; decide +kernel, rfl⟩
theorem i_law_670 {X : ev_X} : fe (M_law X) 670 (.aload_n 0) 1 671 := ⟨by show decode code 670 = _; decide +kernel, rfl⟩
theorem i_law_671 {X : ev_X} : fe (M_law X) 671 (.iload_n 3) 1 672 := ⟨by show decode code 671 = _; decide +kernel, rfl⟩
theorem i_law_672 {X : ev_X} : fe (M_law X) 672 (.iconst 1) 1 673 := ⟨by show decode code 672 = _; decide +kernel, rfl⟩
theorem i_law_673 {X : ev_X} : fe (M_law X) 673 .iadd 1 674 := ⟨by show decode code 673 = _; decide +kernel, rfl⟩
theorem i_law_674 {X : ev_X} : fe (M_law X) 674 .iaload 1 675 := ⟨by show decode code 674 = _; decide +kernel, rfl⟩
theorem i_law_675 {X : ev_X} : fe (M_law X) 675 (.invokevirtual 92) 3 678 := ⟨by show decode code 675 = _; decide +kernel, rfl⟩
theorem i_law_678 {X : ev_X} : fb (M_law X) 678 (.if_icmp .eq) 809 681 := ⟨131, by show decode code 678 = _; decide +kernel, by decide, rfl⟩
theorem i_law_681 {X : ev_X} : fe (M_law X) 681 (.iconst 0) 1 682 := ⟨by show decode code 681 = _; decide +kernel, rfl⟩
theorem i_law_682 {X : ev_X} : fe (M_law X) 682 .ireturn 1 683 := ⟨by show decode code 682 = _; decide +kernel, rfl⟩
theorem i_law_683 {X : ev_X} : fe (M_law X) 683 (.aload_n 1) 1 684 := ⟨by show decode code 683 = _; decide +kernel, rfl⟩
theorem i_law_684 {X : ev_X} : fe (M_law X) 684 (.aload_n 0) 1 685 := ⟨by show decode code 684 = _; decide +kernel, rfl⟩
theorem i_law_685 {X : ev_X} : fe (M_law X) 685 (.iload_n 3) 1 686 := ⟨by show decode code 685 = _; decide +kernel, rfl⟩
theorem i_law_686 {X : ev_X} : fe (M_law X) 686 (.iconst 1) 1 687 := ⟨by show decode code 686 = _; decide +kernel, rfl⟩
theorem i_law_687 {X : ev_X} : fe (M_law X) 687 .iadd 1 688 := ⟨by show decode code 687 = _; decide +kernel, rfl⟩
theorem i_law_688 {X : ev_X} : fe (M_law X) 688 .iaload 1 689 := ⟨by show decode code 688 = _; decide +kernel, rfl⟩
theorem i_law_689 {X : ev_X} : fe (M_law X) 689 .i2l 1 690 := ⟨by show decode code 689 = _; decide +kernel, rfl⟩
theorem i_law_690 {X : ev_X} : fe (M_law X) 690 (.bipush 32) 2 692 := ⟨by show decode code 690 = _; decide +kernel, rfl⟩
theorem i_law_692 {X : ev_X} : fe (M_law X) 692 .lshl 1 693 := ⟨by show decode code 692 = _; decide +kernel, rfl⟩
theorem i_law_693 {X : ev_X} : fe (M_law X) 693 (.aload_n 0) 1 694 := ⟨by show decode code 693 = _; decide +kernel, rfl⟩
theorem i_law_694 {X : ev_X} : fe (M_law X) 694 (.iload_n 3) 1 695 := ⟨by show decode code 694 = _; decide +kernel, rfl⟩
theorem i_law_695 {X : ev_X} : fe (M_law X) 695 (.iconst 2) 1 696 := ⟨by show decode code 695 = _; decide +kernel, rfl⟩
theorem i_law_696 {X : ev_X} : fe (M_law X) 696 .iadd 1 697 := ⟨by show decode code 696 = _; decide +kernel, rfl⟩
theorem i_law_697 {X : ev_X} : fe (M_law X) 697 .iaload 1 698 := ⟨by show decode code 697 = _; decide +kernel, rfl⟩
theorem i_law_698 {X : ev_X} : fe (M_law X) 698 .i2l 1 699 := ⟨by show decode code 698 = _; decide +kernel, rfl⟩
theorem i_law_699 {X : ev_X} : fe (M_law X) 699 (.ldc2_w 13) 3 702 := ⟨by show decode code 699 = _; decide +kernel, rfl⟩
theorem i_law_702 {X : ev_X} : fe (M_law X) 702 .land 1 703 := ⟨by show decode code 702 = _; decide +kernel, rfl⟩
theorem i_law_703 {X : ev_X} : fe (M_law X) 703 .lor 1 704 := ⟨by show decode code 703 = _; decide +kernel, rfl⟩
theorem i_law_704 {X : ev_X} : fe (M_law X) 704 (.aload_n 0) 1 705 := ⟨by show decode code 704 = _; decide +kernel, rfl⟩
theorem i_law_705 {X : ev_X} : fe (M_law X) 705 (.iload_n 3) 1 706 := ⟨by show decode code 705 = _; decide +kernel, rfl⟩
theorem i_law_706 {X : ev_X} : fe (M_law X) 706 (.iconst 3) 1 707 := ⟨by show decode code 706 = _; decide +kernel, rfl⟩
theorem i_law_707 {X : ev_X} : fe (M_law X) 707 .iadd 1 708 := ⟨by show decode code 707 = _; decide +kernel, rfl⟩
theorem i_law_708 {X : ev_X} : fe (M_law X) 708 .iaload 1 709 := ⟨by show decode code 708 = _; decide +kernel, rfl⟩
theorem i_law_709 {X : ev_X} : fe (M_law X) 709 (.invokevirtual 93) 3 712 := ⟨by show decode code 709 = _; decide +kernel, rfl⟩
theorem i_law_712 {X : ev_X} : fe (M_law X) 712 (.aload_n 2) 1 713 := ⟨by show decode code 712 = _; decide +kernel, rfl⟩
theorem i_law_713 {X : ev_X} : fe (M_law X) 713 (.aload_n 0) 1 714 := ⟨by show decode code 713 = _; decide +kernel, rfl⟩
theorem i_law_714 {X : ev_X} : fe (M_law X) 714 (.iload_n 3) 1 715 := ⟨by show decode code 714 = _; decide +kernel, rfl⟩
theorem i_law_715 {X : ev_X} : fe (M_law X) 715 (.iconst 1) 1 716 := ⟨by show decode code 715 = _; decide +kernel, rfl⟩
theorem i_law_716 {X : ev_X} : fe (M_law X) 716 .iadd 1 717 := ⟨by show decode code 716 = _; decide +kernel, rfl⟩
theorem i_law_717 {X : ev_X} : fe (M_law X) 717 .iaload 1 718 := ⟨by show decode code 717 = _; decide +kernel, rfl⟩
theorem i_law_718 {X : ev_X} : fe (M_law X) 718 .i2l 1 719 := ⟨by show decode code 718 = _; decide +kernel, rfl⟩
theorem i_law_719 {X : ev_X} : fe (M_law X) 719 (.bipush 32) 2 721 := ⟨by show decode code 719 = _; decide +kernel, rfl⟩
theorem i_law_721 {X : ev_X} : fe (M_law X) 721 .lshl 1 722 := ⟨by show decode code 721 = _; decide +kernel, rfl⟩
theorem i_law_722 {X : ev_X} : fe (M_law X) 722 (.aload_n 0) 1 723 := ⟨by show decode code 722 = _; decide +kernel, rfl⟩
theorem i_law_723 {X : ev_X} : fe (M_law X) 723 (.iload_n 3) 1 724 := ⟨by show decode code 723 = _; decide +kernel, rfl⟩
theorem i_law_724 {X : ev_X} : fe (M_law X) 724 (.iconst 2) 1 725 := ⟨by show decode code 724 = _; decide +kernel, rfl⟩
theorem i_law_725 {X : ev_X} : fe (M_law X) 725 .iadd 1 726 := ⟨by show decode code 725 = _; decide +kernel, rfl⟩
theorem i_law_726 {X : ev_X} : fe (M_law X) 726 .iaload 1 727 := ⟨by show decode code 726 = _; decide +kernel, rfl⟩
theorem i_law_727 {X : ev_X} : fe (M_law X) 727 .i2l 1 728 := ⟨by show decode code 727 = _; decide +kernel, rfl⟩
theorem i_law_728 {X : ev_X} : fe (M_law X) 728 (.ldc2_w 13) 3 731 := ⟨by show decode code 728 = _; decide +kernel, rfl⟩
theorem i_law_731 {X : ev_X} : fe (M_law X) 731 .land 1 732 := ⟨by show decode code 731 = _; decide +kernel, rfl⟩
theorem i_law_732 {X : ev_X} : fe (M_law X) 732 .lor 1 733 := ⟨by show decode code 732 = _; decide +kernel, rfl⟩
theorem i_law_733 {X : ev_X} : fe (M_law X) 733 (.aload_n 0) 1 734 := ⟨by show decode code 733 = _; decide +kernel, rfl⟩
theorem i_law_734 {X : ev_X} : fe (M_law X) 734 (.iload_n 3) 1 735 := ⟨by show decode code 734 = _; decide +kernel, rfl⟩
theorem i_law_735 {X : ev_X} : fe (M_law X) 735 (.iconst 3) 1 736 := ⟨by show decode code 735 = _; decide +kernel, rfl⟩
theorem i_law_736 {X : ev_X} : fe (M_law X) 736 .iadd 1 737 := ⟨by show decode code 736 = _; decide +kernel, rfl⟩
theorem i_law_737 {X : ev_X} : fe (M_law X) 737 .iaload 1 738 := ⟨by show decode code 737 = _; decide +kernel, rfl⟩
theorem i_law_738 {X : ev_X} : fe (M_law X) 738 (.invokevirtual 97) 3 741 := ⟨by show decode code 738 = _; decide +kernel, rfl⟩
theorem i_law_741 {X : ev_X} : fb (M_law X) 741 (.if_icmp .eq) 809 744 := ⟨68, by show decode code 741 = _; decide +kernel, by decide, rfl⟩
theorem i_law_744 {X : ev_X} : fe (M_law X) 744 (.iconst 0) 1 745 := ⟨by show decode code 744 = _; decide +kernel, rfl⟩
theorem i_law_745 {X : ev_X} : fe (M_law X) 745 .ireturn 1 746 := ⟨by show decode code 745 = _; decide +kernel, rfl⟩
theorem i_law_746 {X : ev_X} : fe (M_law X) 746 (.aload_n 1) 1 747 := ⟨by show decode code 746 = _; decide +kernel, rfl⟩
theorem i_law_747 {X : ev_X} : fe (M_law X) 747 (.aload_n 0) 1 748 := ⟨by show decode code 747 = _; decide +kernel, rfl⟩
theorem i_law_748 {X : ev_X} : fe (M_law X) 748 (.iload_n 3) 1 749 := ⟨by show decode code 748 = _; decide +kernel, rfl⟩
theorem i_law_749 {X : ev_X} : fe (M_law X) 749 (.iconst 1) 1 750 := ⟨by show decode code 749 = _; decide +kernel, rfl⟩
theorem i_law_750 {X : ev_X} : fe (M_law X) 750 .iadd 1 751 := ⟨by show decode code 750 = _; decide +kernel, rfl⟩
theorem i_law_751 {X : ev_X} : fe (M_law X) 751 .iaload 1 752 := ⟨by show decode code 751 = _; decide +kernel, rfl⟩
theorem i_law_752 {X : ev_X} : fe (M_law X) 752 .i2l 1 753 := ⟨by show decode code 752 = _; decide +kernel, rfl⟩
theorem i_law_753 {X : ev_X} : fe (M_law X) 753 (.bipush 32) 2 755 := ⟨by show decode code 753 = _; decide +kernel, rfl⟩
theorem i_law_755 {X : ev_X} : fe (M_law X) 755 .lshl 1 756 := ⟨by show decode code 755 = _; decide +kernel, rfl⟩
theorem i_law_756 {X : ev_X} : fe (M_law X) 756 (.aload_n 0) 1 757 := ⟨by show decode code 756 = _; decide +kernel, rfl⟩
theorem i_law_757 {X : ev_X} : fe (M_law X) 757 (.iload_n 3) 1 758 := ⟨by show decode code 757 = _; decide +kernel, rfl⟩
theorem i_law_758 {X : ev_X} : fe (M_law X) 758 (.iconst 2) 1 759 := ⟨by show decode code 758 = _; decide +kernel, rfl⟩
theorem i_law_759 {X : ev_X} : fe (M_law X) 759 .iadd 1 760 := ⟨by show decode code 759 = _; decide +kernel, rfl⟩
theorem i_law_760 {X : ev_X} : fe (M_law X) 760 .iaload 1 761 := ⟨by show decode code 760 = _; decide +kernel, rfl⟩
theorem i_law_761 {X : ev_X} : fe (M_law X) 761 .i2l 1 762 := ⟨by show decode code 761 = _; decide +kernel, rfl⟩
theorem i_law_762 {X : ev_X} : fe (M_law X) 762 (.ldc2_w 13) 3 765 := ⟨by show decode code 762 = _; decide +kernel, rfl⟩
theorem i_law_765 {X : ev_X} : fe (M_law X) 765 .land 1 766 := ⟨by show decode code 765 = _; decide +kernel, rfl⟩
theorem i_law_766 {X : ev_X} : fe (M_law X) 766 .lor 1 767 := ⟨by show decode code 766 = _; decide +kernel, rfl⟩
theorem i_law_767 {X : ev_X} : fe (M_law X) 767 (.aload_n 0) 1 768 := ⟨by show decode code 767 = _; decide +kernel, rfl⟩
theorem i_law_768 {X : ev_X} : fe (M_law X) 768 (.iload_n 3) 1 769 := ⟨by show decode code 768 = _; decide +kernel, rfl⟩
theorem i_law_769 {X : ev_X} : fe (M_law X) 769 (.iconst 3) 1 770 := ⟨by show decode code 769 = _; decide +kernel, rfl⟩
theorem i_law_770 {X : ev_X} : fe (M_law X) 770 .iadd 1 771 := ⟨by show decode code 770 = _; decide +kernel, rfl⟩
theorem i_law_771 {X : ev_X} : fe (M_law X) 771 .iaload 1 772 := ⟨by show decode code 771 = _; decide +kernel, rfl⟩
theorem i_law_772 {X : ev_X} : fe (M_law X) 772 (.invokevirtual 98) 3 775 := ⟨by show decode code 772 = _; decide +kernel, rfl⟩
theorem i_law_775 {X : ev_X} : fe (M_law X) 775 (.aload_n 2) 1 776 := ⟨by show decode code 775 = _; decide +kernel, rfl⟩
theorem i_law_776 {X : ev_X} : fe (M_law X) 776 (.aload_n 0) 1 777 := ⟨by show decode code 776 = _; decide +kernel, rfl⟩
theorem i_law_777 {X : ev_X} : fe (M_law X) 777 (.iload_n 3) 1 778 := ⟨by show decode code 777 = _; decide +kernel, rfl⟩
theorem i_law_778 {X : ev_X} : fe (M_law X) 778 (.iconst 1) 1 779 := ⟨by show decode code 778 = _; decide +kernel, rfl⟩
theorem i_law_779 {X : ev_X} : fe (M_law X) 779 .iadd 1 780 := ⟨by show decode code 779 = _; decide +kernel, rfl⟩
theorem i_law_780 {X : ev_X} : fe (M_law X) 780 .iaload 1 781 := ⟨by show decode code 780 = _; decide +kernel, rfl⟩
theorem i_law_781 {X : ev_X} : fe (M_law X) 781 .i2l 1 782 := ⟨by show decode code 781 = _; decide +kernel, rfl⟩
theorem i_law_782 {X : ev_X} : fe (M_law X) 782 (.bipush 32) 2 784 := ⟨by show decode code 782 = _; decide +kernel, rfl⟩
theorem i_law_784 {X : ev_X} : fe (M_law X) 784 .lshl 1 785 := ⟨by show decode code 784 = _; decide +kernel, rfl⟩
theorem i_law_785 {X : ev_X} : fe (M_law X) 785 (.aload_n 0) 1 786 := ⟨by show decode code 785 = _; decide +kernel, rfl⟩
theorem i_law_786 {X : ev_X} : fe (M_law X) 786 (.iload_n 3) 1 787 := ⟨by show decode code 786 = _; decide +kernel, rfl⟩
theorem i_law_787 {X : ev_X} : fe (M_law X) 787 (.iconst 2) 1 788 := ⟨by show decode code 787 = _; decide +kernel, rfl⟩
theorem i_law_788 {X : ev_X} : fe (M_law X) 788 .iadd 1 789 := ⟨by show decode code 788 = _; decide +kernel, rfl⟩
theorem i_law_789 {X : ev_X} : fe (M_law X) 789 .iaload 1 790 := ⟨by show decode code 789 = _; decide +kernel, rfl⟩
theorem i_law_790 {X : ev_X} : fe (M_law X) 790 .i2l 1 791 := ⟨by show decode code 790 = _; decide +kernel, rfl⟩
theorem i_law_791 {X : ev_X} : fe (M_law X) 791 (.ldc2_w 13) 3 794 := ⟨by show decode code 791 = _; decide +kernel, rfl⟩
theorem i_law_794 {X : ev_X} : fe (M_law X) 794 .land 1 795 := ⟨by show decode code 794 = _; decide +kernel, rfl⟩
theorem i_law_795 {X : ev_X} : fe (M_law X) 795 .lor 1 796 := ⟨by show decode code 795 = _; decide +kernel, rfl⟩
theorem i_law_796 {X : ev_X} : fe (M_law X) 796 (.aload_n 0) 1 797 := ⟨by show decode code 796 = _; decide +kernel, rfl⟩
theorem i_law_797 {X : ev_X} : fe (M_law X) 797 (.iload_n 3) 1 798 := ⟨by show decode code 797 = _; decide +kernel, rfl⟩
theorem i_law_798 {X : ev_X} : fe (M_law X) 798 (.iconst 3) 1 799 := ⟨by show decode code 798 = _; decide +kernel, rfl⟩
theorem i_law_799 {X : ev_X} : fe (M_law X) 799 .iadd 1 800 := ⟨by show decode code 799 = _; decide +kernel, rfl⟩
theorem i_law_800 {X : ev_X} : fe (M_law X) 800 .iaload 1 801 := ⟨by show decode code 800 = _; decide +kernel, rfl⟩
theorem i_law_801 {X : ev_X} : fe (M_law X) 801 (.invokevirtual 101) 3 804 := ⟨by show decode code 801 = _; decide +kernel, rfl⟩
theorem i_law_804 {X : ev_X} : fb (M_law X) 804 (.if_icmp .eq) 809 807 := ⟨5, by show decode code 804 = _; decide +kernel, by decide, rfl⟩
theorem i_law_807 {X : ev_X} : fe (M_law X) 807 (.iconst 0) 1 808 := ⟨by show decode code 807 = _; decide +kernel, rfl⟩
theorem i_law_808 {X : ev_X} : fe (M_law X) 808 .ireturn 1 809 := ⟨by show decode code 808 = _; decide +kernel, rfl⟩
theorem i_law_809 {X : ev_X} : fe (M_law X) 809 (.iinc 3 5) 3 812 := ⟨by show decode code 809 = _; decide +kernel, rfl⟩
theorem i_law_812 {X : ev_X} : fb (M_law X) 812 .goto 18 815 := ⟨-794, by show decode code 812 = _; decide +kernel, by decide, rfl⟩
theorem i_law_815 {X : ev_X} : fe (M_law X) 815 (.iconst 1) 1 816 := ⟨by show decode code 815 = _; decide +kernel, rfl⟩
theorem i_law_816 {X : ev_X} : fe (M_law X) 816 .ireturn 1 817 := ⟨by show decode code 816 = _; decide +kernel, rfl⟩
