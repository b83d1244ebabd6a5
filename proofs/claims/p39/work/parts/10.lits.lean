theorem ic_m8 : Int32.ofInt (-8) = (-8) := by decide
theorem ic_m1 : Int32.ofInt (-1) = (-1) := by decide
theorem ic_0 : Int32.ofInt 0 = 0 := by decide
theorem ic_1 : Int32.ofInt 1 = 1 := by decide
theorem ic_2 : Int32.ofInt 2 = 2 := by decide
theorem ic_3 : Int32.ofInt 3 = 3 := by decide
theorem ic_4 : Int32.ofInt 4 = 4 := by decide
theorem ic_5 : Int32.ofInt 5 = 5 := by decide
theorem bi_m6 : (Int8.ofInt (-6)).toInt32 = (-6) := by decide
theorem bi_m5 : (Int8.ofInt (-5)).toInt32 = (-5) := by decide
theorem bi_m3 : (Int8.ofInt (-3)).toInt32 = (-3) := by decide
theorem bi_m2 : (Int8.ofInt (-2)).toInt32 = (-2) := by decide
theorem bi_6 : (Int8.ofInt 6).toInt32 = 6 := by decide
theorem bi_7 : (Int8.ofInt 7).toInt32 = 7 := by decide
theorem bi_8 : (Int8.ofInt 8).toInt32 = 8 := by decide
theorem bi_9 : (Int8.ofInt 9).toInt32 = 9 := by decide
theorem bi_10 : (Int8.ofInt 10).toInt32 = 10 := by decide
theorem bi_11 : (Int8.ofInt 11).toInt32 = 11 := by decide
theorem bi_12 : (Int8.ofInt 12).toInt32 = 12 := by decide
theorem bi_13 : (Int8.ofInt 13).toInt32 = 13 := by decide
theorem bi_14 : (Int8.ofInt 14).toInt32 = 14 := by decide
theorem bi_15 : (Int8.ofInt 15).toInt32 = 15 := by decide
theorem bi_16 : (Int8.ofInt 16).toInt32 = 16 := by decide
theorem bi_17 : (Int8.ofInt 17).toInt32 = 17 := by decide
theorem bi_20 : (Int8.ofInt 20).toInt32 = 20 := by decide
theorem bi_21 : (Int8.ofInt 21).toInt32 = 21 := by decide
theorem bi_22 : (Int8.ofInt 22).toInt32 = 22 := by decide
theorem bi_23 : (Int8.ofInt 23).toInt32 = 23 := by decide
theorem bi_24 : (Int8.ofInt 24).toInt32 = 24 := by decide
theorem bi_25 : (Int8.ofInt 25).toInt32 = 25 := by decide
theorem bi_26 : (Int8.ofInt 26).toInt32 = 26 := by decide
theorem bi_27 : (Int8.ofInt 27).toInt32 = 27 := by decide
theorem bi_28 : (Int8.ofInt 28).toInt32 = 28 := by decide
theorem bi_29 : (Int8.ofInt 29).toInt32 = 29 := by decide
theorem bi_30 : (Int8.ofInt 30).toInt32 = 30 := by decide
theorem bi_31 : (Int8.ofInt 31).toInt32 = 31 := by decide
theorem bi_32 : (Int8.ofInt 32).toInt32 = 32 := by decide
theorem bi_37 : (Int8.ofInt 37).toInt32 = 37 := by decide
theorem bi_40 : (Int8.ofInt 40).toInt32 = 40 := by decide
theorem bi_41 : (Int8.ofInt 41).toInt32 = 41 := by decide
theorem bi_42 : (Int8.ofInt 42).toInt32 = 42 := by decide
theorem bi_43 : (Int8.ofInt 43).toInt32 = 43 := by decide
theorem bi_45 : (Int8.ofInt 45).toInt32 = 45 := by decide
theorem bi_47 : (Int8.ofInt 47).toInt32 = 47 := by decide
theorem bi_48 : (Int8.ofInt 48).toInt32 = 48 := by decide
theorem bi_50 : (Int8.ofInt 50).toInt32 = 50 := by decide
theorem bi_52 : (Int8.ofInt 52).toInt32 = 52 := by decide
theorem bi_57 : (Int8.ofInt 57).toInt32 = 57 := by decide
theorem bi_59 : (Int8.ofInt 59).toInt32 = 59 := by decide
theorem bi_60 : (Int8.ofInt 60).toInt32 = 60 := by decide
theorem bi_61 : (Int8.ofInt 61).toInt32 = 61 := by decide
theorem bi_62 : (Int8.ofInt 62).toInt32 = 62 := by decide
theorem bi_63 : (Int8.ofInt 63).toInt32 = 63 := by decide
theorem bi_64 : (Int8.ofInt 64).toInt32 = 64 := by decide
theorem bi_78 : (Int8.ofInt 78).toInt32 = 78 := by decide
theorem bi_91 : (Int8.ofInt 91).toInt32 = 91 := by decide
theorem bi_93 : (Int8.ofInt 93).toInt32 = 93 := by decide
theorem bi_96 : (Int8.ofInt 96).toInt32 = 96 := by decide
theorem bi_97 : (Int8.ofInt 97).toInt32 = 97 := by decide
theorem bi_98 : (Int8.ofInt 98).toInt32 = 98 := by decide
theorem bi_99 : (Int8.ofInt 99).toInt32 = 99 := by decide
theorem bi_100 : (Int8.ofInt 100).toInt32 = 100 := by decide
theorem bi_120 : (Int8.ofInt 120).toInt32 = 120 := by decide
theorem bi_121 : (Int8.ofInt 121).toInt32 = 121 := by decide
theorem bi_122 : (Int8.ofInt 122).toInt32 = 122 := by decide
theorem bi_126 : (Int8.ofInt 126).toInt32 = 126 := by decide
theorem si_132 : (Int16.ofInt 132).toInt32 = 132 := by decide
theorem si_138 : (Int16.ofInt 138).toInt32 = 138 := by decide
theorem si_146 : (Int16.ofInt 146).toInt32 = 146 := by decide
theorem si_154 : (Int16.ofInt 154).toInt32 = 154 := by decide
theorem si_162 : (Int16.ofInt 162).toInt32 = 162 := by decide
theorem si_170 : (Int16.ofInt 170).toInt32 = 170 := by decide
theorem si_185 : (Int16.ofInt 185).toInt32 = 185 := by decide
theorem si_189 : (Int16.ofInt 189).toInt32 = 189 := by decide
theorem si_255 : (Int16.ofInt 255).toInt32 = 255 := by decide
theorem si_256 : (Int16.ofInt 256).toInt32 = 256 := by decide
theorem si_400 : (Int16.ofInt 400).toInt32 = 400 := by decide
theorem si_900 : (Int16.ofInt 900).toInt32 = 900 := by decide
theorem si_999 : (Int16.ofInt 999).toInt32 = 999 := by decide
theorem si_1000 : (Int16.ofInt 1000).toInt32 = 1000 := by decide
theorem si_1815 : (Int16.ofInt 1815).toInt32 = 1815 := by decide
theorem si_1936 : (Int16.ofInt 1936).toInt32 = 1936 := by decide
theorem si_2048 : (Int16.ofInt 2048).toInt32 = 2048 := by decide
theorem si_2178 : (Int16.ofInt 2178).toInt32 = 2178 := by decide
theorem si_5585 : (Int16.ofInt 5585).toInt32 = 5585 := by decide
theorem si_10000 : (Int16.ofInt 10000).toInt32 = 10000 := by decide
theorem si_11170 : (Int16.ofInt 11170).toInt32 = 11170 := by decide
theorem lc_0 : Int64.ofNat (0 : Fin 2).val = 0 := by decide
theorem lc_1 : Int64.ofNat (1 : Fin 2).val = 1 := by decide
def FX0_0 : List Value := [.null, .null]
set_option maxRecDepth 20000 in
theorem FX0_d : ∀ j, j < 2 → defaultValue (tyX0 j) = vp_V FX0_0 j := by decide +kernel
def FX1_0 : List Value := [.null, .null, .null, .int 0, .int 0, .int 0]
set_option maxRecDepth 20000 in
theorem FX1_d : ∀ j, j < 6 → defaultValue (tyX1 j) = vp_V FX1_0 j := by decide +kernel
def FX2_0 : List Value := [.null, .null, .null, .null, .int 0, .int 0]
set_option maxRecDepth 20000 in
theorem FX2_d : ∀ j, j < 6 → defaultValue (tyX2 j) = vp_V FX2_0 j := by decide +kernel
def FX3_0 : List Value := [.null, .null, .int 0, .int 0]
set_option maxRecDepth 20000 in
theorem FX3_d : ∀ j, j < 4 → defaultValue (tyX3 j) = vp_V FX3_0 j := by decide +kernel
def FX4_0 : List Value := [.null, .int 0, .int 0, .null, .int 0, .null, .null, .null, .null, .null, .int 0]
set_option maxRecDepth 20000 in
theorem FX4_d : ∀ j, j < 11 → defaultValue (tyX4 j) = vp_V FX4_0 j := by decide +kernel
def FX5_0 : List Value := [.null, .null, .int 0, .int 0]
set_option maxRecDepth 20000 in
theorem FX5_d : ∀ j, j < 4 → defaultValue (tyX5 j) = vp_V FX5_0 j := by decide +kernel
def FX6_0 : List Value := [.null]
set_option maxRecDepth 20000 in
theorem FX6_d : ∀ j, j < 1 → defaultValue (tyX6 j) = vp_V FX6_0 j := by decide +kernel
def FX7_0 : List Value := [.null, .null, .null, .null, .null]
set_option maxRecDepth 20000 in
theorem FX7_d : ∀ j, j < 5 → defaultValue (tyX7 j) = vp_V FX7_0 j := by decide +kernel
def FX8_0 : List Value := [.null, .int 0, .null, .null, .int 0, .null, .null, .null, .null, .int 0, .null, .null, .int 0, .int 0, .int 0, .null, .int 0]
set_option maxRecDepth 20000 in
theorem FX8_d : ∀ j, j < 17 → defaultValue (tyX8 j) = vp_V FX8_0 j := by decide +kernel
def FX9_0 : List Value := [.null, .int 0, .int 0, .int 0, .int 0, .int 0]
set_option maxRecDepth 20000 in
theorem FX9_d : ∀ j, j < 6 → defaultValue (tyX9 j) = vp_V FX9_0 j := by decide +kernel
def FX10_0 : List Value := [.int 0, .int 0, .int 0, .null, .null, .null, .null]
set_option maxRecDepth 20000 in
theorem FX10_d : ∀ j, j < 7 → defaultValue (tyX10 j) = vp_V FX10_0 j := by decide +kernel
def FX11_0 : List Value := [.null, .null, .null, .null, .null, .null, .null, .null, .null, .null, .null, .int 0, .int 0, .int 0, .int 0, .int 0, .null, .int 0]
set_option maxRecDepth 20000 in
theorem FX11_d : ∀ j, j < 18 → defaultValue (tyX11 j) = vp_V FX11_0 j := by decide +kernel
def FX12_0 : List Value := [.int 0, .int 0, .null, .null, .null, .null, .null, .null, .int 0, .null, .null, .int 0, .null, .int 0, .int 0, .int 0, .int 0, .long 0, .int 0, .int 0, .int 0, .int 0, .null, .int 0, .null, .null, .int 0, .null, .null, .int 0, .int 0, .null, .null, .null, .int 0, .null, .null, .null, .int 0, .long 0, .long 0, .null, .null, .null, .int 0, .null, .null, .null, .null, .null, .null, .null, .null, .int 0, .int 0, .int 0, .int 0, .long 0, .null, .int 0, .int 0]
set_option maxRecDepth 20000 in
theorem FX12_d : ∀ j, j < 61 → defaultValue (tyX12 j) = vp_V FX12_0 j := by decide +kernel
