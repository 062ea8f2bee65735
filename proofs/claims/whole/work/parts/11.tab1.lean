/-! tables of methods -/
set_option maxRecDepth 100000 in
theorem zmok_40 : zmOK 40 := zmOK_of (n := 104) (fun pc h => by
  show zp40 pc = none
  unfold zp40
  rw [zble_t h]
  rfl) (by decide +kernel) (by rfl) (by decide +kernel)
set_option maxRecDepth 100000 in
theorem zmok_41 : zmOK 41 := zmOK_of (n := 188) (fun pc h => by
  show zp41 pc = none
  unfold zp41
  rw [zble_t h]
  rfl) (by decide +kernel) (by rfl) (by decide +kernel)
set_option maxRecDepth 100000 in
theorem zmok_42 : zmOK 42 := zmOK_of (n := 30) (fun pc h => by
  show zp42 pc = none
  unfold zp42
  rw [zble_t h]
  rfl) (by decide +kernel) (by rfl) (by decide +kernel)
set_option maxRecDepth 100000 in
theorem zmok_43 : zmOK 43 := zmOK_of (n := 43) (fun pc h => by
  show zp43 pc = none
  unfold zp43
  rw [zble_t h]
  rfl) (by decide +kernel) (by rfl) (by decide +kernel)
set_option maxRecDepth 100000 in
theorem zmok_44 : zmOK 44 := zmOK_of (n := 18) (fun pc h => by
  show zp44 pc = none
  unfold zp44
  rw [zble_t h]
  rfl) (by decide +kernel) (by rfl) (by decide +kernel)
set_option maxRecDepth 100000 in
theorem zmok_45 : zmOK 45 := zmOK_of (n := 30) (fun pc h => by
  show zp45 pc = none
  unfold zp45
  rw [zble_t h]
  rfl) (by decide +kernel) (by rfl) (by decide +kernel)
set_option maxRecDepth 100000 in
theorem zmok_46 : zmOK 46 := zmOK_of (n := 18) (fun pc h => by
  show zp46 pc = none
  unfold zp46
  rw [zble_t h]
  rfl) (by decide +kernel) (by rfl) (by decide +kernel)
set_option maxRecDepth 100000 in
theorem zmok_47 : zmOK 47 := zmOK_of (n := 186) (fun pc h => by
  show zp47 pc = none
  unfold zp47
  rw [zble_t h]
  rfl) (by decide +kernel) (by rfl) (by decide +kernel)
set_option maxRecDepth 100000 in
theorem zmok_48 : zmOK 48 := zmOK_of (n := 347) (fun pc h => by
  show zp48 pc = none
  unfold zp48
  rw [zble_t h]
  rfl) (by decide +kernel) (by rfl) (by decide +kernel)
set_option maxRecDepth 100000 in
theorem zmok_49 : zmOK 49 := zmOK_of (n := 54) (fun pc h => by
  show zp49 pc = none
  unfold zp49
  rw [zble_t h]
  rfl) (by decide +kernel) (by rfl) (by decide +kernel)
set_option maxRecDepth 100000 in
theorem zmok_50 : zmOK 50 := zmOK_of (n := 42) (fun pc h => by
  show zp50 pc = none
  unfold zp50
  rw [zble_t h]
  rfl) (by decide +kernel) (by rfl) (by decide +kernel)
set_option maxRecDepth 100000 in
theorem zmok_51 : zmOK 51 := zmOK_of (n := 40) (fun pc h => by
  show zp51 pc = none
  unfold zp51
  rw [zble_t h]
  rfl) (by decide +kernel) (by rfl) (by decide +kernel)
set_option maxRecDepth 100000 in
theorem zmok_52 : zmOK 52 := zmOK_of (n := 50) (fun pc h => by
  show zp52 pc = none
  unfold zp52
  rw [zble_t h]
  rfl) (by decide +kernel) (by rfl) (by decide +kernel)
set_option maxRecDepth 100000 in
theorem zmok_53 : zmOK 53 := zmOK_of (n := 40) (fun pc h => by
  show zp53 pc = none
  unfold zp53
  rw [zble_t h]
  rfl) (by decide +kernel) (by rfl) (by decide +kernel)
set_option maxRecDepth 100000 in
theorem zmok_54 : zmOK 54 := zmOK_of (n := 23) (fun pc h => by
  show zp54 pc = none
  unfold zp54
  rw [zble_t h]
  rfl) (by decide +kernel) (by rfl) (by decide +kernel)
set_option maxRecDepth 100000 in
theorem zmok_55 : zmOK 55 := zmOK_of (n := 27) (fun pc h => by
  show zp55 pc = none
  unfold zp55
  rw [zble_t h]
  rfl) (by decide +kernel) (by rfl) (by decide +kernel)
set_option maxRecDepth 100000 in
theorem zmok_56 : zmOK 56 := zmOK_of (n := 49) (fun pc h => by
  show zp56 pc = none
  unfold zp56
  rw [zble_t h]
  rfl) (by decide +kernel) (by rfl) (by decide +kernel)
set_option maxRecDepth 100000 in
theorem zmok_57 : zmOK 57 := zmOK_of (n := 23) (fun pc h => by
  show zp57 pc = none
  unfold zp57
  rw [zble_t h]
  rfl) (by decide +kernel) (by rfl) (by decide +kernel)
set_option maxRecDepth 100000 in
theorem zmok_58 : zmOK 58 := zmOK_of (n := 20) (fun pc h => by
  show zp58 pc = none
  unfold zp58
  rw [zble_t h]
  rfl) (by decide +kernel) (by rfl) (by decide +kernel)
set_option maxRecDepth 100000 in
theorem zmok_59 : zmOK 59 := zmOK_of (n := 30) (fun pc h => by
  show zp59 pc = none
  unfold zp59
  rw [zble_t h]
  rfl) (by decide +kernel) (by rfl) (by decide +kernel)
set_option maxRecDepth 100000 in
theorem zmok_60 : zmOK 60 := zmOK_of (n := 57) (fun pc h => by
  show zp60 pc = none
  unfold zp60
  rw [zble_t h]
  rfl) (by decide +kernel) (by rfl) (by decide +kernel)
set_option maxRecDepth 100000 in
theorem zmok_61 : zmOK 61 := zmOK_of (n := 115) (fun pc h => by
  show zp61 pc = none
  unfold zp61
  rw [zble_t h]
  rfl) (by decide +kernel) (by rfl) (by decide +kernel)
set_option maxRecDepth 100000 in
theorem zmok_62 : zmOK 62 := zmOK_of (n := 16) (fun pc h => by
  show zp62 pc = none
  unfold zp62
  rw [zble_t h]
  rfl) (by decide +kernel) (by rfl) (by decide +kernel)
set_option maxRecDepth 100000 in
theorem zmok_63 : zmOK 63 := zmOK_of (n := 45) (fun pc h => by
  show zp63 pc = none
  unfold zp63
  rw [zble_t h]
  rfl) (by decide +kernel) (by rfl) (by decide +kernel)
set_option maxRecDepth 100000 in
theorem zmok_64 : zmOK 64 := zmOK_of (n := 102) (fun pc h => by
  show zp64 pc = none
  unfold zp64
  rw [zble_t h]
  rfl) (by decide +kernel) (by rfl) (by decide +kernel)
set_option maxRecDepth 100000 in
theorem zmok_65 : zmOK 65 := zmOK_of (n := 58) (fun pc h => by
  show zp65 pc = none
  unfold zp65
  rw [zble_t h]
  rfl) (by decide +kernel) (by rfl) (by decide +kernel)
set_option maxRecDepth 100000 in
theorem zmok_66 : zmOK 66 := zmOK_of (n := 79) (fun pc h => by
  show zp66 pc = none
  unfold zp66
  rw [zble_t h]
  rfl) (by decide +kernel) (by rfl) (by decide +kernel)
set_option maxRecDepth 100000 in
theorem zmok_67 : zmOK 67 := zmOK_of (n := 101) (fun pc h => by
  show zp67 pc = none
  unfold zp67
  rw [zble_t h]
  rfl) (by decide +kernel) (by rfl) (by decide +kernel)
set_option maxRecDepth 100000 in
theorem zmok_68 : zmOK 68 := zmOK_of (n := 22) (fun pc h => by
  show zp68 pc = none
  unfold zp68
  rw [zble_t h]
  rfl) (by decide +kernel) (by rfl) (by decide +kernel)
set_option maxRecDepth 100000 in
theorem zmok_69 : zmOK 69 := zmOK_of (n := 40) (fun pc h => by
  show zp69 pc = none
  unfold zp69
  rw [zble_t h]
  rfl) (by decide +kernel) (by rfl) (by decide +kernel)
set_option maxRecDepth 100000 in
theorem zmok_70 : zmOK 70 := zmOK_of (n := 33) (fun pc h => by
  show zp70 pc = none
  unfold zp70
  rw [zble_t h]
  rfl) (by decide +kernel) (by rfl) (by decide +kernel)
set_option maxRecDepth 100000 in
theorem zmok_71 : zmOK 71 := zmOK_of (n := 40) (fun pc h => by
  show zp71 pc = none
  unfold zp71
  rw [zble_t h]
  rfl) (by decide +kernel) (by rfl) (by decide +kernel)
set_option maxRecDepth 100000 in
theorem zmok_72 : zmOK 72 := zmOK_of (n := 65) (fun pc h => by
  show zp72 pc = none
  unfold zp72
  rw [zble_t h]
  rfl) (by decide +kernel) (by rfl) (by decide +kernel)
set_option maxRecDepth 100000 in
theorem zmok_73 : zmOK 73 := zmOK_of (n := 85) (fun pc h => by
  show zp73 pc = none
  unfold zp73
  rw [zble_t h]
  rfl) (by decide +kernel) (by rfl) (by decide +kernel)
set_option maxRecDepth 100000 in
theorem zmok_74 : zmOK 74 := zmOK_of (n := 31) (fun pc h => by
  show zp74 pc = none
  unfold zp74
  rw [zble_t h]
  rfl) (by decide +kernel) (by rfl) (by decide +kernel)
set_option maxRecDepth 100000 in
theorem zmok_75 : zmOK 75 := zmOK_of (n := 68) (fun pc h => by
  show zp75 pc = none
  unfold zp75
  rw [zble_t h]
  rfl) (by decide +kernel) (by rfl) (by decide +kernel)
set_option maxRecDepth 100000 in
theorem zmok_76 : zmOK 76 := zmOK_of (n := 27) (fun pc h => by
  show zp76 pc = none
  unfold zp76
  rw [zble_t h]
  rfl) (by decide +kernel) (by rfl) (by decide +kernel)
set_option maxRecDepth 100000 in
theorem zmok_77 : zmOK 77 := zmOK_of (n := 70) (fun pc h => by
  show zp77 pc = none
  unfold zp77
  rw [zble_t h]
  rfl) (by decide +kernel) (by rfl) (by decide +kernel)
set_option maxRecDepth 100000 in
theorem zmok_78 : zmOK 78 := zmOK_of (n := 41) (fun pc h => by
  show zp78 pc = none
  unfold zp78
  rw [zble_t h]
  rfl) (by decide +kernel) (by rfl) (by decide +kernel)
set_option maxRecDepth 100000 in
theorem zmok_79 : zmOK 79 := zmOK_of (n := 34) (fun pc h => by
  show zp79 pc = none
  unfold zp79
  rw [zble_t h]
  rfl) (by decide +kernel) (by rfl) (by decide +kernel)
