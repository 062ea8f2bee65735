/-! tables of methods -/
set_option maxRecDepth 100000 in
theorem zmok_120 : zmOK 120 := zmOK_of (n := 25) (fun pc h => by
  show zp120 pc = none
  unfold zp120
  rw [zble_t h]
  rfl) (by decide +kernel) (by rfl) (by decide +kernel)
set_option maxRecDepth 100000 in
theorem zmok_121 : zmOK 121 := zmOK_of (n := 47) (fun pc h => by
  show zp121 pc = none
  unfold zp121
  rw [zble_t h]
  rfl) (by decide +kernel) (by rfl) (by decide +kernel)
set_option maxRecDepth 100000 in
theorem zmok_122 : zmOK 122 := zmOK_of (n := 14) (fun pc h => by
  show zp122 pc = none
  unfold zp122
  rw [zble_t h]
  rfl) (by decide +kernel) (by rfl) (by decide +kernel)
set_option maxRecDepth 100000 in
theorem zmok_123 : zmOK 123 := zmOK_of (n := 14) (fun pc h => by
  show zp123 pc = none
  unfold zp123
  rw [zble_t h]
  rfl) (by decide +kernel) (by rfl) (by decide +kernel)
set_option maxRecDepth 100000 in
theorem zmok_124 : zmOK 124 := zmOK_of (n := 47) (fun pc h => by
  show zp124 pc = none
  unfold zp124
  rw [zble_t h]
  rfl) (by decide +kernel) (by rfl) (by decide +kernel)
set_option maxRecDepth 100000 in
theorem zmok_125 : zmOK 125 := zmOK_of (n := 46) (fun pc h => by
  show zp125 pc = none
  unfold zp125
  rw [zble_t h]
  rfl) (by decide +kernel) (by rfl) (by decide +kernel)
set_option maxRecDepth 100000 in
theorem zmok_126 : zmOK 126 := zmOK_of (n := 120) (fun pc h => by
  show zp126 pc = none
  unfold zp126
  rw [zble_t h]
  rfl) (by decide +kernel) (by rfl) (by decide +kernel)
set_option maxRecDepth 100000 in
theorem zmok_127 : zmOK 127 := zmOK_of (n := 21) (fun pc h => by
  show zp127 pc = none
  unfold zp127
  rw [zble_t h]
  rfl) (by decide +kernel) (by rfl) (by decide +kernel)
set_option maxRecDepth 100000 in
theorem zmok_128 : zmOK 128 := zmOK_of (n := 108) (fun pc h => by
  show zp128 pc = none
  unfold zp128
  rw [zble_t h]
  rfl) (by decide +kernel) (by rfl) (by decide +kernel)
set_option maxRecDepth 100000 in
theorem zmok_129 : zmOK 129 := zmOK_of (n := 73) (fun pc h => by
  show zp129 pc = none
  unfold zp129
  rw [zble_t h]
  rfl) (by decide +kernel) (by rfl) (by decide +kernel)
set_option maxRecDepth 100000 in
theorem zmok_130 : zmOK 130 := zmOK_of (n := 39) (fun pc h => by
  show zp130 pc = none
  unfold zp130
  rw [zble_t h]
  rfl) (by decide +kernel) (by rfl) (by decide +kernel)
set_option maxRecDepth 100000 in
theorem zmok_131 : zmOK 131 := zmOK_of (n := 47) (fun pc h => by
  show zp131 pc = none
  unfold zp131
  rw [zble_t h]
  rfl) (by decide +kernel) (by rfl) (by decide +kernel)
set_option maxRecDepth 100000 in
theorem zmok_132 : zmOK 132 := zmOK_of (n := 21) (fun pc h => by
  show zp132 pc = none
  unfold zp132
  rw [zble_t h]
  rfl) (by decide +kernel) (by rfl) (by decide +kernel)
set_option maxRecDepth 100000 in
theorem zmok_133 : zmOK 133 := zmOK_of (n := 28) (fun pc h => by
  show zp133 pc = none
  unfold zp133
  rw [zble_t h]
  rfl) (by decide +kernel) (by rfl) (by decide +kernel)
set_option maxRecDepth 100000 in
theorem zmok_134 : zmOK 134 := zmOK_of (n := 321) (fun pc h => by
  show zp134 pc = none
  unfold zp134
  rw [zble_t h]
  rfl) (by decide +kernel) (by rfl) (by decide +kernel)
set_option maxRecDepth 100000 in
theorem zmok_135 : zmOK 135 := zmOK_of (n := 440) (fun pc h => by
  show zp135 pc = none
  unfold zp135
  rw [zble_t h]
  rfl) (by decide +kernel) (by rfl) (by decide +kernel)
set_option maxRecDepth 100000 in
theorem zmok_136 : zmOK 136 := zmOK_of (n := 22) (fun pc h => by
  show zp136 pc = none
  unfold zp136
  rw [zble_t h]
  rfl) (by decide +kernel) (by rfl) (by decide +kernel)
set_option maxRecDepth 100000 in
theorem zmok_137 : zmOK 137 := zmOK_of (n := 22) (fun pc h => by
  show zp137 pc = none
  unfold zp137
  rw [zble_t h]
  rfl) (by decide +kernel) (by rfl) (by decide +kernel)
set_option maxRecDepth 100000 in
theorem zmok_138 : zmOK 138 := zmOK_of (n := 21) (fun pc h => by
  show zp138 pc = none
  unfold zp138
  rw [zble_t h]
  rfl) (by decide +kernel) (by rfl) (by decide +kernel)
set_option maxRecDepth 100000 in
theorem zmok_139 : zmOK 139 := zmOK_of (n := 31) (fun pc h => by
  show zp139 pc = none
  unfold zp139
  rw [zble_t h]
  rfl) (by decide +kernel) (by rfl) (by decide +kernel)
set_option maxRecDepth 100000 in
theorem zmok_140 : zmOK 140 := zmOK_of (n := 21) (fun pc h => by
  show zp140 pc = none
  unfold zp140
  rw [zble_t h]
  rfl) (by decide +kernel) (by rfl) (by decide +kernel)
set_option maxRecDepth 100000 in
theorem zmok_141 : zmOK 141 := zmOK_of (n := 12) (fun pc h => by
  show zp141 pc = none
  unfold zp141
  rw [zble_t h]
  rfl) (by decide +kernel) (by rfl) (by decide +kernel)
set_option maxRecDepth 100000 in
theorem zmok_142 : zmOK 142 := zmOK_of (n := 37) (fun pc h => by
  show zp142 pc = none
  unfold zp142
  rw [zble_t h]
  rfl) (by decide +kernel) (by rfl) (by decide +kernel)
set_option maxRecDepth 100000 in
theorem zmok_143 : zmOK 143 := zmOK_of (n := 40) (fun pc h => by
  show zp143 pc = none
  unfold zp143
  rw [zble_t h]
  rfl) (by decide +kernel) (by rfl) (by decide +kernel)
set_option maxRecDepth 100000 in
theorem zmok_144 : zmOK 144 := zmOK_of (n := 71) (fun pc h => by
  show zp144 pc = none
  unfold zp144
  rw [zble_t h]
  rfl) (by decide +kernel) (by rfl) (by decide +kernel)
set_option maxRecDepth 100000 in
theorem zmok_145 : zmOK 145 := zmOK_of (n := 46) (fun pc h => by
  show zp145 pc = none
  unfold zp145
  rw [zble_t h]
  rfl) (by decide +kernel) (by rfl) (by decide +kernel)
set_option maxRecDepth 100000 in
theorem zmok_146 : zmOK 146 := zmOK_of (n := 29) (fun pc h => by
  show zp146 pc = none
  unfold zp146
  rw [zble_t h]
  rfl) (by decide +kernel) (by rfl) (by decide +kernel)
set_option maxRecDepth 100000 in
theorem zmok_147 : zmOK 147 := zmOK_of (n := 28) (fun pc h => by
  show zp147 pc = none
  unfold zp147
  rw [zble_t h]
  rfl) (by decide +kernel) (by rfl) (by decide +kernel)
set_option maxRecDepth 100000 in
theorem zmok_148 : zmOK 148 := zmOK_of (n := 132) (fun pc h => by
  show zp148 pc = none
  unfold zp148
  rw [zble_t h]
  rfl) (by decide +kernel) (by rfl) (by decide +kernel)
set_option maxRecDepth 100000 in
theorem zmok_149 : zmOK 149 := zmOK_of (n := 188) (fun pc h => by
  show zp149 pc = none
  unfold zp149
  rw [zble_t h]
  rfl) (by decide +kernel) (by rfl) (by decide +kernel)
set_option maxRecDepth 100000 in
theorem zmok_150 : zmOK 150 := zmOK_of (n := 83) (fun pc h => by
  show zp150 pc = none
  unfold zp150
  rw [zble_t h]
  rfl) (by decide +kernel) (by rfl) (by decide +kernel)
set_option maxRecDepth 100000 in
theorem zmok_151 : zmOK 151 := zmOK_of (n := 38) (fun pc h => by
  show zp151 pc = none
  unfold zp151
  rw [zble_t h]
  rfl) (by decide +kernel) (by rfl) (by decide +kernel)
set_option maxRecDepth 100000 in
theorem zmok_152 : zmOK 152 := zmOK_of (n := 45) (fun pc h => by
  show zp152 pc = none
  unfold zp152
  rw [zble_t h]
  rfl) (by decide +kernel) (by rfl) (by decide +kernel)
set_option maxRecDepth 100000 in
theorem zmok_153 : zmOK 153 := zmOK_of (n := 44) (fun pc h => by
  show zp153 pc = none
  unfold zp153
  rw [zble_t h]
  rfl) (by decide +kernel) (by rfl) (by decide +kernel)
set_option maxRecDepth 100000 in
theorem zmok_154 : zmOK 154 := zmOK_of (n := 68) (fun pc h => by
  show zp154 pc = none
  unfold zp154
  rw [zble_t h]
  rfl) (by decide +kernel) (by rfl) (by decide +kernel)
set_option maxRecDepth 100000 in
theorem zmok_155 : zmOK 155 := zmOK_of (n := 352) (fun pc h => by
  show zp155 pc = none
  unfold zp155
  rw [zble_t h]
  rfl) (by decide +kernel) (by rfl) (by decide +kernel)
set_option maxRecDepth 100000 in
theorem zmok_156 : zmOK 156 := zmOK_of (n := 88) (fun pc h => by
  show zp156 pc = none
  unfold zp156
  rw [zble_t h]
  rfl) (by decide +kernel) (by rfl) (by decide +kernel)
set_option maxRecDepth 100000 in
theorem zmok_157 : zmOK 157 := zmOK_of (n := 38) (fun pc h => by
  show zp157 pc = none
  unfold zp157
  rw [zble_t h]
  rfl) (by decide +kernel) (by rfl) (by decide +kernel)
set_option maxRecDepth 100000 in
theorem zmok_158 : zmOK 158 := zmOK_of (n := 52) (fun pc h => by
  show zp158 pc = none
  unfold zp158
  rw [zble_t h]
  rfl) (by decide +kernel) (by rfl) (by decide +kernel)
set_option maxRecDepth 100000 in
theorem zmok_159 : zmOK 159 := zmOK_of (n := 40) (fun pc h => by
  show zp159 pc = none
  unfold zp159
  rw [zble_t h]
  rfl) (by decide +kernel) (by rfl) (by decide +kernel)
