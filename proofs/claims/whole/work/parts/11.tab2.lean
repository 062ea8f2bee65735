/-! tables of methods -/
set_option maxRecDepth 100000 in
theorem zmok_80 : zmOK 80 := zmOK_of (n := 56) (fun pc h => by
  show zp80 pc = none
  unfold zp80
  rw [zble_t h]
  rfl) (by decide +kernel) (by rfl) (by decide +kernel)
set_option maxRecDepth 100000 in
theorem zmok_81 : zmOK 81 := zmOK_of (n := 184) (fun pc h => by
  show zp81 pc = none
  unfold zp81
  rw [zble_t h]
  rfl) (by decide +kernel) (by rfl) (by decide +kernel)
set_option maxRecDepth 100000 in
theorem zmok_82 : zmOK 82 := zmOK_of (n := 72) (fun pc h => by
  show zp82 pc = none
  unfold zp82
  rw [zble_t h]
  rfl) (by decide +kernel) (by rfl) (by decide +kernel)
set_option maxRecDepth 100000 in
theorem zmok_83 : zmOK 83 := zmOK_of (n := 121) (fun pc h => by
  show zp83 pc = none
  unfold zp83
  rw [zble_t h]
  rfl) (by decide +kernel) (by rfl) (by decide +kernel)
set_option maxRecDepth 100000 in
theorem zmok_84 : zmOK 84 := zmOK_of (n := 54) (fun pc h => by
  show zp84 pc = none
  unfold zp84
  rw [zble_t h]
  rfl) (by decide +kernel) (by rfl) (by decide +kernel)
set_option maxRecDepth 100000 in
theorem zmok_85 : zmOK 85 := zmOK_of (n := 99) (fun pc h => by
  show zp85 pc = none
  unfold zp85
  rw [zble_t h]
  rfl) (by decide +kernel) (by rfl) (by decide +kernel)
set_option maxRecDepth 100000 in
theorem zmok_86 : zmOK 86 := zmOK_of (n := 163) (fun pc h => by
  show zp86 pc = none
  unfold zp86
  rw [zble_t h]
  rfl) (by decide +kernel) (by rfl) (by decide +kernel)
set_option maxRecDepth 100000 in
theorem zmok_87 : zmOK 87 := zmOK_of (n := 67) (fun pc h => by
  show zp87 pc = none
  unfold zp87
  rw [zble_t h]
  rfl) (by decide +kernel) (by rfl) (by decide +kernel)
set_option maxRecDepth 100000 in
theorem zmok_88 : zmOK 88 := zmOK_of (n := 39) (fun pc h => by
  show zp88 pc = none
  unfold zp88
  rw [zble_t h]
  rfl) (by decide +kernel) (by rfl) (by decide +kernel)
set_option maxRecDepth 100000 in
theorem zmok_89 : zmOK 89 := zmOK_of (n := 49) (fun pc h => by
  show zp89 pc = none
  unfold zp89
  rw [zble_t h]
  rfl) (by decide +kernel) (by rfl) (by decide +kernel)
set_option maxRecDepth 100000 in
theorem zmok_90 : zmOK 90 := zmOK_of (n := 104) (fun pc h => by
  show zp90 pc = none
  unfold zp90
  rw [zble_t h]
  rfl) (by decide +kernel) (by rfl) (by decide +kernel)
set_option maxRecDepth 100000 in
theorem zmok_91 : zmOK 91 := zmOK_of (n := 68) (fun pc h => by
  show zp91 pc = none
  unfold zp91
  rw [zble_t h]
  rfl) (by decide +kernel) (by rfl) (by decide +kernel)
set_option maxRecDepth 100000 in
theorem zmok_92 : zmOK 92 := zmOK_of (n := 71) (fun pc h => by
  show zp92 pc = none
  unfold zp92
  rw [zble_t h]
  rfl) (by decide +kernel) (by rfl) (by decide +kernel)
set_option maxRecDepth 100000 in
theorem zmok_93 : zmOK 93 := zmOK_of (n := 118) (fun pc h => by
  show zp93 pc = none
  unfold zp93
  rw [zble_t h]
  rfl) (by decide +kernel) (by rfl) (by decide +kernel)
set_option maxRecDepth 100000 in
theorem zmok_94 : zmOK 94 := zmOK_of (n := 77) (fun pc h => by
  show zp94 pc = none
  unfold zp94
  rw [zble_t h]
  rfl) (by decide +kernel) (by rfl) (by decide +kernel)
set_option maxRecDepth 100000 in
theorem zmok_95 : zmOK 95 := zmOK_of (n := 69) (fun pc h => by
  show zp95 pc = none
  unfold zp95
  rw [zble_t h]
  rfl) (by decide +kernel) (by rfl) (by decide +kernel)
set_option maxRecDepth 100000 in
theorem zmok_96 : zmOK 96 := zmOK_of (n := 106) (fun pc h => by
  show zp96 pc = none
  unfold zp96
  rw [zble_t h]
  rfl) (by decide +kernel) (by rfl) (by decide +kernel)
set_option maxRecDepth 100000 in
theorem zmok_97 : zmOK 97 := zmOK_of (n := 182) (fun pc h => by
  show zp97 pc = none
  unfold zp97
  rw [zble_t h]
  rfl) (by decide +kernel) (by rfl) (by decide +kernel)
set_option maxRecDepth 100000 in
theorem zmok_98 : zmOK 98 := zmOK_of (n := 92) (fun pc h => by
  show zp98 pc = none
  unfold zp98
  rw [zble_t h]
  rfl) (by decide +kernel) (by rfl) (by decide +kernel)
set_option maxRecDepth 100000 in
theorem zmok_99 : zmOK 99 := zmOK_of (n := 77) (fun pc h => by
  show zp99 pc = none
  unfold zp99
  rw [zble_t h]
  rfl) (by decide +kernel) (by rfl) (by decide +kernel)
set_option maxRecDepth 100000 in
theorem zmok_100 : zmOK 100 := zmOK_of (n := 23) (fun pc h => by
  show zp100 pc = none
  unfold zp100
  rw [zble_t h]
  rfl) (by decide +kernel) (by rfl) (by decide +kernel)
set_option maxRecDepth 100000 in
theorem zmok_101 : zmOK 101 := zmOK_of (n := 111) (fun pc h => by
  show zp101 pc = none
  unfold zp101
  rw [zble_t h]
  rfl) (by decide +kernel) (by rfl) (by decide +kernel)
set_option maxRecDepth 100000 in
theorem zmok_102 : zmOK 102 := zmOK_of (n := 119) (fun pc h => by
  show zp102 pc = none
  unfold zp102
  rw [zble_t h]
  rfl) (by decide +kernel) (by rfl) (by decide +kernel)
set_option maxRecDepth 100000 in
theorem zmok_103 : zmOK 103 := zmOK_of (n := 49) (fun pc h => by
  show zp103 pc = none
  unfold zp103
  rw [zble_t h]
  rfl) (by decide +kernel) (by rfl) (by decide +kernel)
set_option maxRecDepth 100000 in
theorem zmok_104 : zmOK 104 := zmOK_of (n := 124) (fun pc h => by
  show zp104 pc = none
  unfold zp104
  rw [zble_t h]
  rfl) (by decide +kernel) (by rfl) (by decide +kernel)
set_option maxRecDepth 100000 in
theorem zmok_105 : zmOK 105 := zmOK_of (n := 167) (fun pc h => by
  show zp105 pc = none
  unfold zp105
  rw [zble_t h]
  rfl) (by decide +kernel) (by rfl) (by decide +kernel)
set_option maxRecDepth 100000 in
theorem zmok_106 : zmOK 106 := zmOK_of (n := 41) (fun pc h => by
  show zp106 pc = none
  unfold zp106
  rw [zble_t h]
  rfl) (by decide +kernel) (by rfl) (by decide +kernel)
set_option maxRecDepth 100000 in
theorem zmok_107 : zmOK 107 := zmOK_of (n := 41) (fun pc h => by
  show zp107 pc = none
  unfold zp107
  rw [zble_t h]
  rfl) (by decide +kernel) (by rfl) (by decide +kernel)
set_option maxRecDepth 100000 in
theorem zmok_108 : zmOK 108 := zmOK_of (n := 16) (fun pc h => by
  show zp108 pc = none
  unfold zp108
  rw [zble_t h]
  rfl) (by decide +kernel) (by rfl) (by decide +kernel)
set_option maxRecDepth 100000 in
theorem zmok_109 : zmOK 109 := zmOK_of (n := 10) (fun pc h => by
  show zp109 pc = none
  unfold zp109
  rw [zble_t h]
  rfl) (by decide +kernel) (by rfl) (by decide +kernel)
set_option maxRecDepth 100000 in
theorem zmok_110 : zmOK 110 := zmOK_of (n := 23) (fun pc h => by
  show zp110 pc = none
  unfold zp110
  rw [zble_t h]
  rfl) (by decide +kernel) (by rfl) (by decide +kernel)
set_option maxRecDepth 100000 in
theorem zmok_111 : zmOK 111 := zmOK_of (n := 34) (fun pc h => by
  show zp111 pc = none
  unfold zp111
  rw [zble_t h]
  rfl) (by decide +kernel) (by rfl) (by decide +kernel)
set_option maxRecDepth 100000 in
theorem zmok_112 : zmOK 112 := zmOK_of (n := 17) (fun pc h => by
  show zp112 pc = none
  unfold zp112
  rw [zble_t h]
  rfl) (by decide +kernel) (by rfl) (by decide +kernel)
set_option maxRecDepth 100000 in
theorem zmok_113 : zmOK 113 := zmOK_of (n := 6) (fun pc h => by
  show zp113 pc = none
  unfold zp113
  rw [zble_t h]
  rfl) (by decide +kernel) (by rfl) (by decide +kernel)
set_option maxRecDepth 100000 in
theorem zmok_114 : zmOK 114 := zmOK_of (n := 9) (fun pc h => by
  show zp114 pc = none
  unfold zp114
  rw [zble_t h]
  rfl) (by decide +kernel) (by rfl) (by decide +kernel)
set_option maxRecDepth 100000 in
theorem zmok_115 : zmOK 115 := zmOK_of (n := 8) (fun pc h => by
  show zp115 pc = none
  unfold zp115
  rw [zble_t h]
  rfl) (by decide +kernel) (by rfl) (by decide +kernel)
set_option maxRecDepth 100000 in
theorem zmok_116 : zmOK 116 := zmOK_of (n := 5) (fun pc h => by
  show zp116 pc = none
  unfold zp116
  rw [zble_t h]
  rfl) (by decide +kernel) (by rfl) (by decide +kernel)
set_option maxRecDepth 100000 in
theorem zmok_117 : zmOK 117 := zmOK_of (n := 16) (fun pc h => by
  show zp117 pc = none
  unfold zp117
  rw [zble_t h]
  rfl) (by decide +kernel) (by rfl) (by decide +kernel)
set_option maxRecDepth 100000 in
theorem zmok_118 : zmOK 118 := zmOK_of (n := 15) (fun pc h => by
  show zp118 pc = none
  unfold zp118
  rw [zble_t h]
  rfl) (by decide +kernel) (by rfl) (by decide +kernel)
set_option maxRecDepth 100000 in
theorem zmok_119 : zmOK 119 := zmOK_of (n := 23) (fun pc h => by
  show zp119 pc = none
  unfold zp119
  rw [zble_t h]
  rfl) (by decide +kernel) (by rfl) (by decide +kernel)
