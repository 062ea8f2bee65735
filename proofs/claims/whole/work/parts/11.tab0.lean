/-! tables of methods -/
set_option maxRecDepth 100000 in
theorem zmok_0 : zmOK 0 := zmOK_of (n := 139) (fun pc h => by
  show zp0 pc = none
  unfold zp0
  rw [zble_t h]
  rfl) (by decide +kernel) (by rfl) (by decide +kernel)
set_option maxRecDepth 100000 in
theorem zmok_1 : zmOK 1 := zmOK_of (n := 148) (fun pc h => by
  show zp1 pc = none
  unfold zp1
  rw [zble_t h]
  rfl) (by decide +kernel) (by rfl) (by decide +kernel)
set_option maxRecDepth 100000 in
theorem zmok_2 : zmOK 2 := zmOK_of (n := 177) (fun pc h => by
  show zp2 pc = none
  unfold zp2
  rw [zble_t h]
  rfl) (by decide +kernel) (by rfl) (by decide +kernel)
set_option maxRecDepth 100000 in
theorem zmok_3 : zmOK 3 := zmOK_of (n := 18) (fun pc h => by
  show zp3 pc = none
  unfold zp3
  rw [zble_t h]
  rfl) (by decide +kernel) (by rfl) (by decide +kernel)
set_option maxRecDepth 100000 in
theorem zmok_4 : zmOK 4 := zmOK_of (n := 18) (fun pc h => by
  show zp4 pc = none
  unfold zp4
  rw [zble_t h]
  rfl) (by decide +kernel) (by rfl) (by decide +kernel)
set_option maxRecDepth 100000 in
theorem zmok_5 : zmOK 5 := zmOK_of (n := 27) (fun pc h => by
  show zp5 pc = none
  unfold zp5
  rw [zble_t h]
  rfl) (by decide +kernel) (by rfl) (by decide +kernel)
set_option maxRecDepth 100000 in
theorem zmok_6 : zmOK 6 := zmOK_of (n := 48) (fun pc h => by
  show zp6 pc = none
  unfold zp6
  rw [zble_t h]
  rfl) (by decide +kernel) (by rfl) (by decide +kernel)
set_option maxRecDepth 100000 in
theorem zmok_7 : zmOK 7 := zmOK_of (n := 48) (fun pc h => by
  show zp7 pc = none
  unfold zp7
  rw [zble_t h]
  rfl) (by decide +kernel) (by rfl) (by decide +kernel)
set_option maxRecDepth 100000 in
theorem zmok_8 : zmOK 8 := zmOK_of (n := 10) (fun pc h => by
  show zp8 pc = none
  unfold zp8
  rw [zble_t h]
  rfl) (by decide +kernel) (by rfl) (by decide +kernel)
set_option maxRecDepth 100000 in
theorem zmok_9 : zmOK 9 := zmOK_of (n := 39) (fun pc h => by
  show zp9 pc = none
  unfold zp9
  rw [zble_t h]
  rfl) (by decide +kernel) (by rfl) (by decide +kernel)
set_option maxRecDepth 100000 in
theorem zmok_10 : zmOK 10 := zmOK_of (n := 38) (fun pc h => by
  show zp10 pc = none
  unfold zp10
  rw [zble_t h]
  rfl) (by decide +kernel) (by rfl) (by decide +kernel)
set_option maxRecDepth 100000 in
theorem zmok_11 : zmOK 11 := zmOK_of (n := 38) (fun pc h => by
  show zp11 pc = none
  unfold zp11
  rw [zble_t h]
  rfl) (by decide +kernel) (by rfl) (by decide +kernel)
set_option maxRecDepth 100000 in
theorem zmok_12 : zmOK 12 := zmOK_of (n := 29) (fun pc h => by
  show zp12 pc = none
  unfold zp12
  rw [zble_t h]
  rfl) (by decide +kernel) (by rfl) (by decide +kernel)
set_option maxRecDepth 100000 in
theorem zmok_13 : zmOK 13 := zmOK_of (n := 119) (fun pc h => by
  show zp13 pc = none
  unfold zp13
  rw [zble_t h]
  rfl) (by decide +kernel) (by rfl) (by decide +kernel)
set_option maxRecDepth 100000 in
theorem zmok_14 : zmOK 14 := zmOK_of (n := 76) (fun pc h => by
  show zp14 pc = none
  unfold zp14
  rw [zble_t h]
  rfl) (by decide +kernel) (by rfl) (by decide +kernel)
set_option maxRecDepth 100000 in
theorem zmok_15 : zmOK 15 := zmOK_of (n := 30) (fun pc h => by
  show zp15 pc = none
  unfold zp15
  rw [zble_t h]
  rfl) (by decide +kernel) (by rfl) (by decide +kernel)
set_option maxRecDepth 100000 in
theorem zmok_16 : zmOK 16 := zmOK_of (n := 298) (fun pc h => by
  show zp16 pc = none
  unfold zp16
  rw [zble_t h]
  rfl) (by decide +kernel) (by rfl) (by decide +kernel)
set_option maxRecDepth 100000 in
theorem zmok_17 : zmOK 17 := zmOK_of (n := 37) (fun pc h => by
  show zp17 pc = none
  unfold zp17
  rw [zble_t h]
  rfl) (by decide +kernel) (by rfl) (by decide +kernel)
set_option maxRecDepth 100000 in
theorem zmok_18 : zmOK 18 := zmOK_of (n := 124) (fun pc h => by
  show zp18 pc = none
  unfold zp18
  rw [zble_t h]
  rfl) (by decide +kernel) (by rfl) (by decide +kernel)
set_option maxRecDepth 100000 in
theorem zmok_19 : zmOK 19 := zmOK_of (n := 271) (fun pc h => by
  show zp19 pc = none
  unfold zp19
  rw [zble_t h]
  rfl) (by decide +kernel) (by rfl) (by decide +kernel)
set_option maxRecDepth 100000 in
theorem zmok_20 : zmOK 20 := zmOK_of (n := 31) (fun pc h => by
  show zp20 pc = none
  unfold zp20
  rw [zble_t h]
  rfl) (by decide +kernel) (by rfl) (by decide +kernel)
set_option maxRecDepth 100000 in
theorem zmok_21 : zmOK 21 := zmOK_of (n := 240) (fun pc h => by
  show zp21 pc = none
  unfold zp21
  rw [zble_t h]
  rfl) (by decide +kernel) (by rfl) (by decide +kernel)
set_option maxRecDepth 100000 in
theorem zmok_22 : zmOK 22 := zmOK_of (n := 84) (fun pc h => by
  show zp22 pc = none
  unfold zp22
  rw [zble_t h]
  rfl) (by decide +kernel) (by rfl) (by decide +kernel)
set_option maxRecDepth 100000 in
theorem zmok_23 : zmOK 23 := zmOK_of (n := 41) (fun pc h => by
  show zp23 pc = none
  unfold zp23
  rw [zble_t h]
  rfl) (by decide +kernel) (by rfl) (by decide +kernel)
set_option maxRecDepth 100000 in
theorem zmok_24 : zmOK 24 := zmOK_of (n := 27) (fun pc h => by
  show zp24 pc = none
  unfold zp24
  rw [zble_t h]
  rfl) (by decide +kernel) (by rfl) (by decide +kernel)
set_option maxRecDepth 100000 in
theorem zmok_25 : zmOK 25 := zmOK_of (n := 60) (fun pc h => by
  show zp25 pc = none
  unfold zp25
  rw [zble_t h]
  rfl) (by decide +kernel) (by rfl) (by decide +kernel)
set_option maxRecDepth 100000 in
theorem zmok_26 : zmOK 26 := zmOK_of (n := 180) (fun pc h => by
  show zp26 pc = none
  unfold zp26
  rw [zble_t h]
  rfl) (by decide +kernel) (by rfl) (by decide +kernel)
set_option maxRecDepth 100000 in
theorem zmok_27 : zmOK 27 := zmOK_of (n := 219) (fun pc h => by
  show zp27 pc = none
  unfold zp27
  rw [zble_t h]
  rfl) (by decide +kernel) (by rfl) (by decide +kernel)
set_option maxRecDepth 100000 in
theorem zmok_28 : zmOK 28 := zmOK_of (n := 75) (fun pc h => by
  show zp28 pc = none
  unfold zp28
  rw [zble_t h]
  rfl) (by decide +kernel) (by rfl) (by decide +kernel)
set_option maxRecDepth 100000 in
theorem zmok_29 : zmOK 29 := zmOK_of (n := 75) (fun pc h => by
  show zp29 pc = none
  unfold zp29
  rw [zble_t h]
  rfl) (by decide +kernel) (by rfl) (by decide +kernel)
set_option maxRecDepth 100000 in
theorem zmok_30 : zmOK 30 := zmOK_of (n := 112) (fun pc h => by
  show zp30 pc = none
  unfold zp30
  rw [zble_t h]
  rfl) (by decide +kernel) (by rfl) (by decide +kernel)
set_option maxRecDepth 100000 in
theorem zmok_31 : zmOK 31 := zmOK_of (n := 28) (fun pc h => by
  show zp31 pc = none
  unfold zp31
  rw [zble_t h]
  rfl) (by decide +kernel) (by rfl) (by decide +kernel)
set_option maxRecDepth 100000 in
theorem zmok_32 : zmOK 32 := zmOK_of (n := 64) (fun pc h => by
  show zp32 pc = none
  unfold zp32
  rw [zble_t h]
  rfl) (by decide +kernel) (by rfl) (by decide +kernel)
set_option maxRecDepth 100000 in
theorem zmok_33 : zmOK 33 := zmOK_of (n := 155) (fun pc h => by
  show zp33 pc = none
  unfold zp33
  rw [zble_t h]
  rfl) (by decide +kernel) (by rfl) (by decide +kernel)
set_option maxRecDepth 100000 in
theorem zmok_34 : zmOK 34 := zmOK_of (n := 56) (fun pc h => by
  show zp34 pc = none
  unfold zp34
  rw [zble_t h]
  rfl) (by decide +kernel) (by rfl) (by decide +kernel)
set_option maxRecDepth 100000 in
theorem zmok_35 : zmOK 35 := zmOK_of (n := 56) (fun pc h => by
  show zp35 pc = none
  unfold zp35
  rw [zble_t h]
  rfl) (by decide +kernel) (by rfl) (by decide +kernel)
set_option maxRecDepth 100000 in
theorem zmok_36 : zmOK 36 := zmOK_of (n := 122) (fun pc h => by
  show zp36 pc = none
  unfold zp36
  rw [zble_t h]
  rfl) (by decide +kernel) (by rfl) (by decide +kernel)
set_option maxRecDepth 100000 in
theorem zmok_37 : zmOK 37 := zmOK_of (n := 29) (fun pc h => by
  show zp37 pc = none
  unfold zp37
  rw [zble_t h]
  rfl) (by decide +kernel) (by rfl) (by decide +kernel)
set_option maxRecDepth 100000 in
theorem zmok_38 : zmOK 38 := zmOK_of (n := 185) (fun pc h => by
  show zp38 pc = none
  unfold zp38
  rw [zble_t h]
  rfl) (by decide +kernel) (by rfl) (by decide +kernel)
set_option maxRecDepth 100000 in
theorem zmok_39 : zmOK 39 := zmOK_of (n := 50) (fun pc h => by
  show zp39 pc = none
  unfold zp39
  rw [zble_t h]
  rfl) (by decide +kernel) (by rfl) (by decide +kernel)
