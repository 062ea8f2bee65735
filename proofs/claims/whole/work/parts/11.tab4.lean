/-! tables of methods -/
set_option maxRecDepth 100000 in
theorem zmok_160 : zmOK 160 := zmOK_of (n := 38) (fun pc h => by
  show zp160 pc = none
  unfold zp160
  rw [zble_t h]
  rfl) (by decide +kernel) (by rfl) (by decide +kernel)
set_option maxRecDepth 100000 in
theorem zmok_161 : zmOK 161 := zmOK_of (n := 173) (fun pc h => by
  show zp161 pc = none
  unfold zp161
  rw [zble_t h]
  rfl) (by decide +kernel) (by rfl) (by decide +kernel)
set_option maxRecDepth 100000 in
theorem zmok_162 : zmOK 162 := zmOK_of (n := 167) (fun pc h => by
  show zp162 pc = none
  unfold zp162
  rw [zble_t h]
  rfl) (by decide +kernel) (by rfl) (by decide +kernel)
set_option maxRecDepth 100000 in
theorem zmok_163 : zmOK 163 := zmOK_of (n := 406) (fun pc h => by
  show zp163 pc = none
  unfold zp163
  rw [zble_t h]
  rfl) (by decide +kernel) (by rfl) (by decide +kernel)
set_option maxRecDepth 100000 in
theorem zmok_164 : zmOK 164 := zmOK_of (n := 25) (fun pc h => by
  show zp164 pc = none
  unfold zp164
  rw [zble_t h]
  rfl) (by decide +kernel) (by rfl) (by decide +kernel)
set_option maxRecDepth 100000 in
theorem zmok_165 : zmOK 165 := zmOK_of (n := 30) (fun pc h => by
  show zp165 pc = none
  unfold zp165
  rw [zble_t h]
  rfl) (by decide +kernel) (by rfl) (by decide +kernel)
set_option maxRecDepth 100000 in
theorem zmok_166 : zmOK 166 := zmOK_of (n := 46) (fun pc h => by
  show zp166 pc = none
  unfold zp166
  rw [zble_t h]
  rfl) (by decide +kernel) (by rfl) (by decide +kernel)
set_option maxRecDepth 100000 in
theorem zmok_167 : zmOK 167 := zmOK_of (n := 239) (fun pc h => by
  show zp167 pc = none
  unfold zp167
  rw [zble_t h]
  rfl) (by decide +kernel) (by rfl) (by decide +kernel)
set_option maxRecDepth 100000 in
theorem zmok_168 : zmOK 168 := zmOK_of (n := 240) (fun pc h => by
  show zp168 pc = none
  unfold zp168
  rw [zble_t h]
  rfl) (by decide +kernel) (by rfl) (by decide +kernel)
set_option maxRecDepth 100000 in
theorem zmok_169 : zmOK 169 := zmOK_of (n := 32) (fun pc h => by
  show zp169 pc = none
  unfold zp169
  rw [zble_t h]
  rfl) (by decide +kernel) (by rfl) (by decide +kernel)
set_option maxRecDepth 100000 in
theorem zmok_170 : zmOK 170 := zmOK_of (n := 73) (fun pc h => by
  show zp170 pc = none
  unfold zp170
  rw [zble_t h]
  rfl) (by decide +kernel) (by rfl) (by decide +kernel)
set_option maxRecDepth 100000 in
theorem zmok_171 : zmOK 171 := zmOK_of (n := 31) (fun pc h => by
  show zp171 pc = none
  unfold zp171
  rw [zble_t h]
  rfl) (by decide +kernel) (by rfl) (by decide +kernel)
set_option maxRecDepth 100000 in
theorem zmok_172 : zmOK 172 := zmOK_of (n := 31) (fun pc h => by
  show zp172 pc = none
  unfold zp172
  rw [zble_t h]
  rfl) (by decide +kernel) (by rfl) (by decide +kernel)
set_option maxRecDepth 100000 in
theorem zmok_173 : zmOK 173 := zmOK_of (n := 19) (fun pc h => by
  show zp173 pc = none
  unfold zp173
  rw [zble_t h]
  rfl) (by decide +kernel) (by rfl) (by decide +kernel)
set_option maxRecDepth 100000 in
theorem zmok_174 : zmOK 174 := zmOK_of (n := 105) (fun pc h => by
  show zp174 pc = none
  unfold zp174
  rw [zble_t h]
  rfl) (by decide +kernel) (by rfl) (by decide +kernel)
set_option maxRecDepth 100000 in
theorem zmok_175 : zmOK 175 := zmOK_of (n := 33) (fun pc h => by
  show zp175 pc = none
  unfold zp175
  rw [zble_t h]
  rfl) (by decide +kernel) (by rfl) (by decide +kernel)
set_option maxRecDepth 100000 in
theorem zmok_176 : zmOK 176 := zmOK_of (n := 34) (fun pc h => by
  show zp176 pc = none
  unfold zp176
  rw [zble_t h]
  rfl) (by decide +kernel) (by rfl) (by decide +kernel)
set_option maxRecDepth 100000 in
theorem zmok_177 : zmOK 177 := zmOK_of (n := 46) (fun pc h => by
  show zp177 pc = none
  unfold zp177
  rw [zble_t h]
  rfl) (by decide +kernel) (by rfl) (by decide +kernel)
set_option maxRecDepth 100000 in
theorem zmok_178 : zmOK 178 := zmOK_of (n := 64) (fun pc h => by
  show zp178 pc = none
  unfold zp178
  rw [zble_t h]
  rfl) (by decide +kernel) (by rfl) (by decide +kernel)
set_option maxRecDepth 100000 in
theorem zmok_179 : zmOK 179 := zmOK_of (n := 46) (fun pc h => by
  show zp179 pc = none
  unfold zp179
  rw [zble_t h]
  rfl) (by decide +kernel) (by rfl) (by decide +kernel)
set_option maxRecDepth 100000 in
theorem zmok_180 : zmOK 180 := zmOK_of (n := 37) (fun pc h => by
  show zp180 pc = none
  unfold zp180
  rw [zble_t h]
  rfl) (by decide +kernel) (by rfl) (by decide +kernel)
set_option maxRecDepth 100000 in
theorem zmok_181 : zmOK 181 := zmOK_of (n := 45) (fun pc h => by
  show zp181 pc = none
  unfold zp181
  rw [zble_t h]
  rfl) (by decide +kernel) (by rfl) (by decide +kernel)
set_option maxRecDepth 100000 in
theorem zmok_182 : zmOK 182 := zmOK_of (n := 124) (fun pc h => by
  show zp182 pc = none
  unfold zp182
  rw [zble_t h]
  rfl) (by decide +kernel) (by rfl) (by decide +kernel)
set_option maxRecDepth 100000 in
theorem zmok_183 : zmOK 183 := zmOK_of (n := 78) (fun pc h => by
  show zp183 pc = none
  unfold zp183
  rw [zble_t h]
  rfl) (by decide +kernel) (by rfl) (by decide +kernel)
set_option maxRecDepth 100000 in
theorem zmok_184 : zmOK 184 := zmOK_of (n := 19) (fun pc h => by
  show zp184 pc = none
  unfold zp184
  rw [zble_t h]
  rfl) (by decide +kernel) (by rfl) (by decide +kernel)
set_option maxRecDepth 100000 in
theorem zmok_185 : zmOK 185 := zmOK_of (n := 106) (fun pc h => by
  show zp185 pc = none
  unfold zp185
  rw [zble_t h]
  rfl) (by decide +kernel) (by rfl) (by decide +kernel)
set_option maxRecDepth 100000 in
theorem zmok_186 : zmOK 186 := zmOK_of (n := 26) (fun pc h => by
  show zp186 pc = none
  unfold zp186
  rw [zble_t h]
  rfl) (by decide +kernel) (by rfl) (by decide +kernel)
set_option maxRecDepth 100000 in
theorem zmok_187 : zmOK 187 := zmOK_of (n := 42) (fun pc h => by
  show zp187 pc = none
  unfold zp187
  rw [zble_t h]
  rfl) (by decide +kernel) (by rfl) (by decide +kernel)
set_option maxRecDepth 100000 in
theorem zmok_188 : zmOK 188 := zmOK_of (n := 43) (fun pc h => by
  show zp188 pc = none
  unfold zp188
  rw [zble_t h]
  rfl) (by decide +kernel) (by rfl) (by decide +kernel)
set_option maxRecDepth 100000 in
theorem zmok_189 : zmOK 189 := zmOK_of (n := 60) (fun pc h => by
  show zp189 pc = none
  unfold zp189
  rw [zble_t h]
  rfl) (by decide +kernel) (by rfl) (by decide +kernel)
set_option maxRecDepth 100000 in
theorem zmok_190 : zmOK 190 := zmOK_of (n := 64) (fun pc h => by
  show zp190 pc = none
  unfold zp190
  rw [zble_t h]
  rfl) (by decide +kernel) (by rfl) (by decide +kernel)
set_option maxRecDepth 100000 in
theorem zmok_191 : zmOK 191 := zmOK_of (n := 38) (fun pc h => by
  show zp191 pc = none
  unfold zp191
  rw [zble_t h]
  rfl) (by decide +kernel) (by rfl) (by decide +kernel)
set_option maxRecDepth 100000 in
theorem zmok_192 : zmOK 192 := zmOK_of (n := 123) (fun pc h => by
  show zp192 pc = none
  unfold zp192
  rw [zble_t h]
  rfl) (by decide +kernel) (by rfl) (by decide +kernel)
set_option maxRecDepth 100000 in
theorem zmok_193 : zmOK 193 := zmOK_of (n := 82) (fun pc h => by
  show zp193 pc = none
  unfold zp193
  rw [zble_t h]
  rfl) (by decide +kernel) (by rfl) (by decide +kernel)
set_option maxRecDepth 100000 in
theorem zmok_194 : zmOK 194 := zmOK_of (n := 26) (fun pc h => by
  show zp194 pc = none
  unfold zp194
  rw [zble_t h]
  rfl) (by decide +kernel) (by rfl) (by decide +kernel)
set_option maxRecDepth 100000 in
theorem zmok_195 : zmOK 195 := zmOK_of (n := 242) (fun pc h => by
  show zp195 pc = none
  unfold zp195
  rw [zble_t h]
  rfl) (by decide +kernel) (by rfl) (by decide +kernel)
set_option maxRecDepth 100000 in
theorem zmok_196 : zmOK 196 := zmOK_of (n := 105) (fun pc h => by
  show zp196 pc = none
  unfold zp196
  rw [zble_t h]
  rfl) (by decide +kernel) (by rfl) (by decide +kernel)
set_option maxRecDepth 100000 in
theorem zmok_197 : zmOK 197 := zmOK_of (n := 115) (fun pc h => by
  show zp197 pc = none
  unfold zp197
  rw [zble_t h]
  rfl) (by decide +kernel) (by rfl) (by decide +kernel)
set_option maxRecDepth 100000 in
theorem zmok_198 : zmOK 198 := zmOK_of (n := 88) (fun pc h => by
  show zp198 pc = none
  unfold zp198
  rw [zble_t h]
  rfl) (by decide +kernel) (by rfl) (by decide +kernel)
set_option maxRecDepth 100000 in
theorem zmok_199 : zmOK 199 := zmOK_of (n := 61) (fun pc h => by
  show zp199 pc = none
  unfold zp199
  rw [zble_t h]
  rfl) (by decide +kernel) (by rfl) (by decide +kernel)
