/-! rows for walking by simp: constants, small numbers, what typed memory answers (by program: gen_base.py) -/
theorem kO_s {α : Type} (x : α) (k : α → Prop) : kO (some x) k = k x := rfl
theorem kcond_t (A : Prop) : (bif true then A else False) = A := rfl
theorem kpush_s (v : Value) (st : List Value) : kpush (some v) st = v :: st := rfl
theorem kpush_n (st : List Value) : kpush none st = st := rfl
theorem nI_lt_eq {a b : Nat} (ha : a < 2147483648) (hb : b < 2147483648) : (nI a < nI b) = (a < b) := by
  refine propext ⟨fun h => ?_, fun h => nI_lt h (by omega)⟩
  by_cases q : a < b
  · exact q
  · exact absurd h (nI_nlt (by omega) (by omega))
theorem nI_inj {a b : Nat} (ha : a < 2147483648) (hb : b < 2147483648) : (nI a = nI b) = (a = b) := by
  refine propext ⟨fun h => ?_, fun h => by rw [h]⟩
  have := congrArg Int32.toNatClampNeg h
  rw [nI_clamp (by omega), nI_clamp (by omega)] at this
  exact this
theorem nI_add1 (n : Nat) : nI n + 1 = nI (n + 1) := (nI_succ n).symm
theorem n_0 : (0 : Int32) = nI 0 := rfl
theorem n_1 : (1 : Int32) = nI 1 := rfl
theorem n_2 : (2 : Int32) = nI 2 := rfl
theorem n_3 : (3 : Int32) = nI 3 := rfl
theorem n_4 : (4 : Int32) = nI 4 := rfl
theorem n_5 : (5 : Int32) = nI 5 := rfl
theorem kz_1 : narrow .boolean (.int 1) = .int 1 := rfl
theorem kz_0 : narrow .boolean (.int 0) = .int 0 := rfl
theorem kzz : ((0 : Int32) = 0 ∧ (0 : Int32) = 0) = True := by simp
theorem c8_m17 : (Int8.ofInt (-17)).toInt32 = (-17) := by decide
theorem c8_m16 : (Int8.ofInt (-16)).toInt32 = (-16) := by decide
theorem c8_m15 : (Int8.ofInt (-15)).toInt32 = (-15) := by decide
theorem c8_m14 : (Int8.ofInt (-14)).toInt32 = (-14) := by decide
theorem c8_m13 : (Int8.ofInt (-13)).toInt32 = (-13) := by decide
theorem c8_m12 : (Int8.ofInt (-12)).toInt32 = (-12) := by decide
theorem c8_m11 : (Int8.ofInt (-11)).toInt32 = (-11) := by decide
theorem c8_m10 : (Int8.ofInt (-10)).toInt32 = (-10) := by decide
theorem c8_m2 : (Int8.ofInt (-2)).toInt32 = (-2) := by decide
theorem c8_6 : (Int8.ofInt 6).toInt32 = nI 6 := by decide
theorem c8_7 : (Int8.ofInt 7).toInt32 = nI 7 := by decide
theorem c8_8 : (Int8.ofInt 8).toInt32 = nI 8 := by decide
theorem c8_9 : (Int8.ofInt 9).toInt32 = nI 9 := by decide
theorem c8_10 : (Int8.ofInt 10).toInt32 = nI 10 := by decide
theorem c8_11 : (Int8.ofInt 11).toInt32 = nI 11 := by decide
theorem c8_12 : (Int8.ofInt 12).toInt32 = nI 12 := by decide
theorem c8_13 : (Int8.ofInt 13).toInt32 = nI 13 := by decide
theorem c8_14 : (Int8.ofInt 14).toInt32 = nI 14 := by decide
theorem c8_15 : (Int8.ofInt 15).toInt32 = nI 15 := by decide
theorem c8_16 : (Int8.ofInt 16).toInt32 = nI 16 := by decide
theorem c8_17 : (Int8.ofInt 17).toInt32 = nI 17 := by decide
theorem c8_18 : (Int8.ofInt 18).toInt32 = nI 18 := by decide
theorem c8_19 : (Int8.ofInt 19).toInt32 = nI 19 := by decide
theorem c8_20 : (Int8.ofInt 20).toInt32 = nI 20 := by decide
theorem c8_21 : (Int8.ofInt 21).toInt32 = nI 21 := by decide
theorem c8_22 : (Int8.ofInt 22).toInt32 = nI 22 := by decide
theorem c8_23 : (Int8.ofInt 23).toInt32 = nI 23 := by decide
theorem c8_25 : (Int8.ofInt 25).toInt32 = nI 25 := by decide
theorem c8_30 : (Int8.ofInt 30).toInt32 = nI 30 := by decide
theorem c8_31 : (Int8.ofInt 31).toInt32 = nI 31 := by decide
theorem c8_32 : (Int8.ofInt 32).toInt32 = nI 32 := by decide
theorem c8_39 : (Int8.ofInt 39).toInt32 = nI 39 := by decide
theorem c8_40 : (Int8.ofInt 40).toInt32 = nI 40 := by decide
theorem c8_41 : (Int8.ofInt 41).toInt32 = nI 41 := by decide
theorem c8_42 : (Int8.ofInt 42).toInt32 = nI 42 := by decide
theorem c8_43 : (Int8.ofInt 43).toInt32 = nI 43 := by decide
theorem c8_45 : (Int8.ofInt 45).toInt32 = nI 45 := by decide
theorem c8_48 : (Int8.ofInt 48).toInt32 = nI 48 := by decide
theorem c8_55 : (Int8.ofInt 55).toInt32 = nI 55 := by decide
theorem c8_56 : (Int8.ofInt 56).toInt32 = nI 56 := by decide
theorem c8_57 : (Int8.ofInt 57).toInt32 = nI 57 := by decide
theorem c8_59 : (Int8.ofInt 59).toInt32 = nI 59 := by decide
theorem c8_60 : (Int8.ofInt 60).toInt32 = nI 60 := by decide
theorem c8_61 : (Int8.ofInt 61).toInt32 = nI 61 := by decide
theorem c8_63 : (Int8.ofInt 63).toInt32 = nI 63 := by decide
theorem c8_70 : (Int8.ofInt 70).toInt32 = nI 70 := by decide
theorem c8_90 : (Int8.ofInt 90).toInt32 = nI 90 := by decide
theorem c8_91 : (Int8.ofInt 91).toInt32 = nI 91 := by decide
theorem c8_92 : (Int8.ofInt 92).toInt32 = nI 92 := by decide
theorem c8_93 : (Int8.ofInt 93).toInt32 = nI 93 := by decide
theorem c8_94 : (Int8.ofInt 94).toInt32 = nI 94 := by decide
theorem c8_96 : (Int8.ofInt 96).toInt32 = nI 96 := by decide
theorem c8_97 : (Int8.ofInt 97).toInt32 = nI 97 := by decide
theorem c8_99 : (Int8.ofInt 99).toInt32 = nI 99 := by decide
theorem c8_115 : (Int8.ofInt 115).toInt32 = nI 115 := by decide
theorem c8_122 : (Int8.ofInt 122).toInt32 = nI 122 := by decide
theorem c8_125 : (Int8.ofInt 125).toInt32 = nI 125 := by decide
theorem c8_126 : (Int8.ofInt 126).toInt32 = nI 126 := by decide
theorem c8_127 : (Int8.ofInt 127).toInt32 = nI 127 := by decide
theorem c16_128 : (Int16.ofInt 128).toInt32 = nI 128 := by decide
theorem c16_129 : (Int16.ofInt 129).toInt32 = nI 129 := by decide
theorem c16_131 : (Int16.ofInt 131).toInt32 = nI 131 := by decide
theorem c16_132 : (Int16.ofInt 132).toInt32 = nI 132 := by decide
theorem c16_135 : (Int16.ofInt 135).toInt32 = nI 135 := by decide
theorem c16_136 : (Int16.ofInt 136).toInt32 = nI 136 := by decide
theorem c16_137 : (Int16.ofInt 137).toInt32 = nI 137 := by decide
theorem c16_138 : (Int16.ofInt 138).toInt32 = nI 138 := by decide
theorem c16_139 : (Int16.ofInt 139).toInt32 = nI 139 := by decide
theorem c16_142 : (Int16.ofInt 142).toInt32 = nI 142 := by decide
theorem c16_143 : (Int16.ofInt 143).toInt32 = nI 143 := by decide
theorem c16_144 : (Int16.ofInt 144).toInt32 = nI 144 := by decide
theorem c16_145 : (Int16.ofInt 145).toInt32 = nI 145 := by decide
theorem c16_146 : (Int16.ofInt 146).toInt32 = nI 146 := by decide
theorem c16_149 : (Int16.ofInt 149).toInt32 = nI 149 := by decide
theorem c16_180 : (Int16.ofInt 180).toInt32 = nI 180 := by decide
theorem c16_250 : (Int16.ofInt 250).toInt32 = nI 250 := by decide
theorem c16_255 : (Int16.ofInt 255).toInt32 = nI 255 := by decide
theorem c16_1000 : (Int16.ofInt 1000).toInt32 = nI 1000 := by decide
theorem c16_1002 : (Int16.ofInt 1002).toInt32 = nI 1002 := by decide
theorem c16_1100 : (Int16.ofInt 1100).toInt32 = nI 1100 := by decide
theorem c16_1155 : (Int16.ofInt 1155).toInt32 = nI 1155 := by decide
theorem c16_1157 : (Int16.ofInt 1157).toInt32 = nI 1157 := by decide
theorem c16_1164 : (Int16.ofInt 1164).toInt32 = nI 1164 := by decide
theorem c16_1178 : (Int16.ofInt 1178).toInt32 = nI 1178 := by decide
theorem c16_1210 : (Int16.ofInt 1210).toInt32 = nI 1210 := by decide
theorem c16_1212 : (Int16.ofInt 1212).toInt32 = nI 1212 := by decide
theorem c16_1219 : (Int16.ofInt 1219).toInt32 = nI 1219 := by decide
theorem c16_1233 : (Int16.ofInt 1233).toInt32 = nI 1233 := by decide
theorem c16_1265 : (Int16.ofInt 1265).toInt32 = nI 1265 := by decide
theorem c16_2200 : (Int16.ofInt 2200).toInt32 = nI 2200 := by decide
theorem c16_4095 : (Int16.ofInt 4095).toInt32 = nI 4095 := by decide
theorem c16_4096 : (Int16.ofInt 4096).toInt32 = nI 4096 := by decide
theorem c16_9999 : (Int16.ofInt 9999).toInt32 = nI 9999 := by decide
theorem c16_12345 : (Int16.ofInt 12345).toInt32 = nI 12345 := by decide
theorem ks0 : kshp 0 = some (.inl 11) := rfl
theorem ks1 : kshp 1 = some (.inl 2) := rfl
theorem ks2 : kshp 2 = some (.inr (2, 1000)) := rfl
theorem ks3 : kshp 3 = some (.inl 5) := rfl
theorem ks4 : kshp 4 = some (.inl 1) := rfl
theorem ks5 : kshp 5 = some (.inl 6) := rfl
theorem ks6 : kshp 6 = some (.inr (1, 7)) := rfl
theorem ks7 : kshp 7 = some (.inr (1, 7)) := rfl
theorem ks8 : kshp 8 = some (.inr (0, 7)) := rfl
theorem ks9 : kshp 9 = some (.inr (0, 7)) := rfl
theorem ks10 : kshp 10 = some (.inl 0) := rfl
theorem ks11 : kshp 11 = some (.inr (0, 1000)) := rfl
theorem ks12 : kshp 12 = some (.inr (0, 32)) := rfl
theorem ks13 : kshp 13 = some (.inl 9) := rfl
theorem ks14 : kshp 14 = some (.inr (0, 7)) := rfl
theorem ks15 : kshp 15 = some (.inr (0, 7)) := rfl
theorem ks16 : kshp 16 = some (.inr (0, 7)) := rfl
theorem ks17 : kshp 17 = some (.inr (0, 7)) := rfl
theorem ks18 : kshp 18 = some (.inl 6) := rfl
theorem ks19 : kshp 19 = some (.inr (1, 7)) := rfl
theorem ks20 : kshp 20 = some (.inr (1, 7)) := rfl
theorem ks21 : kshp 21 = some (.inr (0, 7)) := rfl
theorem ks22 : kshp 22 = some (.inr (0, 7)) := rfl
theorem ks23 : kshp 23 = some (.inl 0) := rfl
theorem ks24 : kshp 24 = some (.inr (0, 1000)) := rfl
theorem ks25 : kshp 25 = some (.inr (0, 32)) := rfl
theorem ks26 : kshp 26 = some (.inl 9) := rfl
theorem ks27 : kshp 27 = some (.inr (0, 7)) := rfl
theorem ks28 : kshp 28 = some (.inr (0, 7)) := rfl
theorem ks29 : kshp 29 = some (.inr (0, 7)) := rfl
theorem ks30 : kshp 30 = some (.inr (0, 7)) := rfl
theorem ks31 : kshp 31 = some (.inl 10) := rfl
theorem ks32 : kshp 32 = some (.inr (0, 40)) := rfl
theorem ks33 : kshp 33 = some (.inr (0, 40)) := rfl
theorem ks34 : kshp 34 = some (.inr (0, 40)) := rfl
theorem ks35 : kshp 35 = some (.inl 10) := rfl
theorem ks36 : kshp 36 = some (.inr (0, 40)) := rfl
theorem ks37 : kshp 37 = some (.inr (0, 40)) := rfl
theorem ks38 : kshp 38 = some (.inr (0, 40)) := rfl
theorem ks39 : kshp 39 = some (.inl 9) := rfl
theorem ks40 : kshp 40 = some (.inr (0, 7)) := rfl
theorem ks41 : kshp 41 = some (.inr (0, 7)) := rfl
theorem ks42 : kshp 42 = some (.inr (0, 7)) := rfl
theorem ks43 : kshp 43 = some (.inr (0, 7)) := rfl
theorem ks44 : kshp 44 = some (.inl 9) := rfl
theorem ks45 : kshp 45 = some (.inr (0, 7)) := rfl
theorem ks46 : kshp 46 = some (.inr (0, 7)) := rfl
theorem ks47 : kshp 47 = some (.inr (0, 7)) := rfl
theorem ks48 : kshp 48 = some (.inr (0, 7)) := rfl
theorem ks49 : kshp 49 = some (.inl 9) := rfl
theorem ks50 : kshp 50 = some (.inr (0, 7)) := rfl
theorem ks51 : kshp 51 = some (.inr (0, 7)) := rfl
theorem ks52 : kshp 52 = some (.inr (0, 7)) := rfl
theorem ks53 : kshp 53 = some (.inr (0, 7)) := rfl
theorem ks54 : kshp 54 = some (.inl 8) := rfl
theorem ks55 : kshp 55 = some (.inr (0, 7)) := rfl
theorem ks56 : kshp 56 = some (.inr (0, 7)) := rfl
theorem ks57 : kshp 57 = some (.inr (0, 7)) := rfl
theorem ks58 : kshp 58 = some (.inr (0, 7)) := rfl
theorem ks59 : kshp 59 = some (.inr (3, 7)) := rfl
theorem ks60 : kshp 60 = some (.inr (0, 7)) := rfl
theorem ks61 : kshp 61 = some (.inr (0, 128)) := rfl
theorem ks62 : kshp 62 = some (.inl 4) := rfl
theorem ks63 : kshp 63 = some (.inr (0, 4096)) := rfl
theorem ks64 : kshp 64 = some (.inr (0, 56)) := rfl
theorem ks65 : kshp 65 = some (.inl 3) := rfl
theorem ks66 : kshp 66 = some (.inr (4, 16)) := rfl
theorem ks67 : kshp 67 = some (.inl 9) := rfl
theorem ks68 : kshp 68 = some (.inr (0, 7)) := rfl
theorem ks69 : kshp 69 = some (.inr (0, 7)) := rfl
theorem ks70 : kshp 70 = some (.inr (0, 7)) := rfl
theorem ks71 : kshp 71 = some (.inr (0, 7)) := rfl
theorem ks72 : kshp 72 = some (.inl 9) := rfl
theorem ks73 : kshp 73 = some (.inr (0, 7)) := rfl
theorem ks74 : kshp 74 = some (.inr (0, 7)) := rfl
theorem ks75 : kshp 75 = some (.inr (0, 7)) := rfl
theorem ks76 : kshp 76 = some (.inr (0, 7)) := rfl
theorem ks77 : kshp 77 = some (.inl 9) := rfl
theorem ks78 : kshp 78 = some (.inr (0, 7)) := rfl
theorem ks79 : kshp 79 = some (.inr (0, 7)) := rfl
theorem ks80 : kshp 80 = some (.inr (0, 7)) := rfl
theorem ks81 : kshp 81 = some (.inr (0, 7)) := rfl
theorem ks82 : kshp 82 = some (.inl 9) := rfl
theorem ks83 : kshp 83 = some (.inr (0, 7)) := rfl
theorem ks84 : kshp 84 = some (.inr (0, 7)) := rfl
theorem ks85 : kshp 85 = some (.inr (0, 7)) := rfl
theorem ks86 : kshp 86 = some (.inr (0, 7)) := rfl
theorem ks87 : kshp 87 = some (.inl 9) := rfl
theorem ks88 : kshp 88 = some (.inr (0, 7)) := rfl
theorem ks89 : kshp 89 = some (.inr (0, 7)) := rfl
theorem ks90 : kshp 90 = some (.inr (0, 7)) := rfl
theorem ks91 : kshp 91 = some (.inr (0, 7)) := rfl
theorem ks92 : kshp 92 = some (.inl 9) := rfl
theorem ks93 : kshp 93 = some (.inr (0, 7)) := rfl
theorem ks94 : kshp 94 = some (.inr (0, 7)) := rfl
theorem ks95 : kshp 95 = some (.inr (0, 7)) := rfl
theorem ks96 : kshp 96 = some (.inr (0, 7)) := rfl
theorem ks97 : kshp 97 = some (.inl 9) := rfl
theorem ks98 : kshp 98 = some (.inr (0, 7)) := rfl
theorem ks99 : kshp 99 = some (.inr (0, 7)) := rfl
theorem ks100 : kshp 100 = some (.inr (0, 7)) := rfl
theorem ks101 : kshp 101 = some (.inr (0, 7)) := rfl
theorem ks102 : kshp 102 = some (.inl 9) := rfl
theorem ks103 : kshp 103 = some (.inr (0, 7)) := rfl
theorem ks104 : kshp 104 = some (.inr (0, 7)) := rfl
theorem ks105 : kshp 105 = some (.inr (0, 7)) := rfl
theorem ks106 : kshp 106 = some (.inr (0, 7)) := rfl
theorem ks107 : kshp 107 = some (.inl 9) := rfl
theorem ks108 : kshp 108 = some (.inr (0, 7)) := rfl
theorem ks109 : kshp 109 = some (.inr (0, 7)) := rfl
theorem ks110 : kshp 110 = some (.inr (0, 7)) := rfl
theorem ks111 : kshp 111 = some (.inr (0, 7)) := rfl
theorem ks112 : kshp 112 = some (.inl 9) := rfl
theorem ks113 : kshp 113 = some (.inr (0, 7)) := rfl
theorem ks114 : kshp 114 = some (.inr (0, 7)) := rfl
theorem ks115 : kshp 115 = some (.inr (0, 7)) := rfl
theorem ks116 : kshp 116 = some (.inr (0, 7)) := rfl
theorem ks117 : kshp 117 = some (.inl 9) := rfl
theorem ks118 : kshp 118 = some (.inr (0, 7)) := rfl
theorem ks119 : kshp 119 = some (.inr (0, 7)) := rfl
theorem ks120 : kshp 120 = some (.inr (0, 7)) := rfl
theorem ks121 : kshp 121 = some (.inr (0, 7)) := rfl
theorem ks122 : kshp 122 = some (.inl 9) := rfl
theorem ks123 : kshp 123 = some (.inr (0, 7)) := rfl
theorem ks124 : kshp 124 = some (.inr (0, 7)) := rfl
theorem ks125 : kshp 125 = some (.inr (0, 7)) := rfl
theorem ks126 : kshp 126 = some (.inr (0, 7)) := rfl
theorem ks127 : kshp 127 = some (.inl 9) := rfl
theorem ks128 : kshp 128 = some (.inr (0, 7)) := rfl
theorem ks129 : kshp 129 = some (.inr (0, 7)) := rfl
theorem ks130 : kshp 130 = some (.inr (0, 7)) := rfl
theorem ks131 : kshp 131 = some (.inr (0, 7)) := rfl
theorem ks132 : kshp 132 = some (.inl 9) := rfl
theorem ks133 : kshp 133 = some (.inr (0, 7)) := rfl
theorem ks134 : kshp 134 = some (.inr (0, 7)) := rfl
theorem ks135 : kshp 135 = some (.inr (0, 7)) := rfl
theorem ks136 : kshp 136 = some (.inr (0, 7)) := rfl
theorem ks137 : kshp 137 = some (.inl 9) := rfl
theorem ks138 : kshp 138 = some (.inr (0, 7)) := rfl
theorem ks139 : kshp 139 = some (.inr (0, 7)) := rfl
theorem ks140 : kshp 140 = some (.inr (0, 7)) := rfl
theorem ks141 : kshp 141 = some (.inr (0, 7)) := rfl
theorem ks142 : kshp 142 = some (.inl 9) := rfl
theorem ks143 : kshp 143 = some (.inr (0, 7)) := rfl
theorem ks144 : kshp 144 = some (.inr (0, 7)) := rfl
theorem ks145 : kshp 145 = some (.inr (0, 7)) := rfl
theorem ks146 : kshp 146 = some (.inr (0, 7)) := rfl
theorem ks147 : kshp 147 = some (.inl 7) := rfl
theorem ks148 : kshp 148 = some (.inr (0, 8)) := rfl
theorem ks149 : kshp 149 = some (.inr (0, 8)) := rfl
theorem ks150 : kshp 150 = some (.inr (4, 4)) := rfl
theorem ks151 : kshp 151 = some (.inr (5, 4)) := rfl
theorem ks152 : kshp 152 = some (.inr (3, 4)) := rfl
theorem ks153 : kshp 153 = some (.inl 9) := rfl
theorem ks154 : kshp 154 = some (.inr (0, 7)) := rfl
theorem ks155 : kshp 155 = some (.inr (0, 7)) := rfl
theorem ks156 : kshp 156 = some (.inr (0, 7)) := rfl
theorem ks157 : kshp 157 = some (.inr (0, 7)) := rfl
theorem ks158 : kshp 158 = some (.inl 7) := rfl
theorem ks159 : kshp 159 = some (.inr (0, 8)) := rfl
theorem ks160 : kshp 160 = some (.inr (0, 8)) := rfl
theorem ks161 : kshp 161 = some (.inl 9) := rfl
theorem ks162 : kshp 162 = some (.inr (0, 7)) := rfl
theorem ks163 : kshp 163 = some (.inr (0, 7)) := rfl
theorem ks164 : kshp 164 = some (.inr (0, 7)) := rfl
theorem ks165 : kshp 165 = some (.inr (0, 7)) := rfl
theorem ks166 : kshp 166 = some (.inl 7) := rfl
theorem ks167 : kshp 167 = some (.inr (0, 8)) := rfl
theorem ks168 : kshp 168 = some (.inr (0, 8)) := rfl
theorem ks169 : kshp 169 = some (.inl 9) := rfl
theorem ks170 : kshp 170 = some (.inr (0, 7)) := rfl
theorem ks171 : kshp 171 = some (.inr (0, 7)) := rfl
theorem ks172 : kshp 172 = some (.inr (0, 7)) := rfl
theorem ks173 : kshp 173 = some (.inr (0, 7)) := rfl
theorem ks174 : kshp 174 = some (.inl 7) := rfl
theorem ks175 : kshp 175 = some (.inr (0, 8)) := rfl
theorem ks176 : kshp 176 = some (.inr (0, 8)) := rfl
theorem ks177 : kshp 177 = some (.inl 9) := rfl
theorem ks178 : kshp 178 = some (.inr (0, 7)) := rfl
theorem ks179 : kshp 179 = some (.inr (0, 7)) := rfl
theorem ks180 : kshp 180 = some (.inr (0, 7)) := rfl
theorem ks181 : kshp 181 = some (.inr (0, 7)) := rfl
theorem ks182 : kshp 182 = some (.inl 7) := rfl
theorem ks183 : kshp 183 = some (.inr (0, 8)) := rfl
theorem ks184 : kshp 184 = some (.inr (0, 8)) := rfl
theorem ks185 : kshp 185 = some (.inl 12) := rfl
theorem ks186 : kshp 186 = some (.inr (0, 1000)) := rfl
theorem ks187 : kshp 187 = some (.inr (0, 1002)) := rfl
theorem ks188 : kshp 188 = some (.inr (0, 1002)) := rfl
theorem ks189 : kshp 189 = some (.inr (1, 1002)) := rfl
theorem ks190 : kshp 190 = some (.inr (1, 22)) := rfl
theorem ks191 : kshp 191 = some (.inr (0, 180)) := rfl
theorem ks192 : kshp 192 = some (.inr (0, 2200)) := rfl
theorem ks193 : kshp 193 = some (.inr (0, 2200)) := rfl
theorem ks194 : kshp 194 = some (.inr (1, 14)) := rfl
theorem ks195 : kshp 195 = some (.inr (1, 14)) := rfl
theorem ks196 : kshp 196 = some (.inr (0, 14)) := rfl
theorem ks197 : kshp 197 = some (.inr (0, 14)) := rfl
theorem ks198 : kshp 198 = some (.inr (0, 250)) := rfl
theorem ks199 : kshp 199 = some (.inr (0, 4)) := rfl
theorem ks200 : kshp 200 = some (.inr (0, 1100)) := rfl
theorem ks201 : kshp 201 = some (.inr (0, 1265)) := rfl
theorem ks202 : kshp 202 = some (.inr (3, 4)) := rfl
theorem ks203 : kshp 203 = some (.inr (0, 7)) := rfl
theorem ks204 : kshp 204 = some (.inr (0, 7)) := rfl
theorem ks205 : kshp 205 = some (.inr (0, 4)) := rfl
theorem ks206 : kshp 206 = some (.inr (0, 7)) := rfl
theorem ks207 : kshp 207 = some (.inr (0, 7)) := rfl
theorem ks208 : kshp 208 = some (.inr (1, 1)) := rfl
theorem kad9 {a : Nat} (h : kshp a = some (.inl 9)) : a = 13 ∨ a = 26 ∨ a = 39 ∨ a = 44 ∨ a = 49 ∨ a = 67 ∨ a = 72 ∨ a = 77 ∨ a = 82 ∨ a = 87 ∨ a = 92 ∨ a = 97 ∨ a = 102 ∨ a = 107 ∨ a = 112 ∨ a = 117 ∨ a = 122 ∨ a = 127 ∨ a = 132 ∨ a = 137 ∨ a = 142 ∨ a = 153 ∨ a = 161 ∨ a = 169 ∨ a = 177 := by
  have key : (List.range 209).all (fun a => !(decide (kshp a = some (.inl 9))) || decide (a = 13 ∨ a = 26 ∨ a = 39 ∨ a = 44 ∨ a = 49 ∨ a = 67 ∨ a = 72 ∨ a = 77 ∨ a = 82 ∨ a = 87 ∨ a = 92 ∨ a = 97 ∨ a = 102 ∨ a = 107 ∨ a = 112 ∨ a = 117 ∨ a = 122 ∨ a = 127 ∨ a = 132 ∨ a = 137 ∨ a = 142 ∨ a = 153 ∨ a = 161 ∨ a = 169 ∨ a = 177)) = true := by decide +kernel
  have := List.all_eq_true.mp key a (List.mem_range.mpr (kshp_lt h))
  simp only [h, decide_true, Bool.not_true, Bool.false_or, decide_eq_true_eq] at this
  exact this
theorem kar9 {a : Nat} (h : kshp a = some (.inl 9)) : kshp (a + 1) = some (.inr (0, 7)) ∧ kshp (a + 2) = some (.inr (0, 7)) ∧ kshp (a + 3) = some (.inr (0, 7)) ∧ kshp (a + 4) = some (.inr (0, 7)) := by
  rcases kad9 h with rfl | rfl | rfl | rfl | rfl | rfl | rfl | rfl | rfl | rfl | rfl | rfl | rfl | rfl | rfl | rfl | rfl | rfl | rfl | rfl | rfl | rfl | rfl | rfl | rfl <;> exact ⟨rfl, rfl, rfl, rfl⟩
theorem kad10 {a : Nat} (h : kshp a = some (.inl 10)) : a = 31 ∨ a = 35 := by
  have key : (List.range 209).all (fun a => !(decide (kshp a = some (.inl 10))) || decide (a = 31 ∨ a = 35)) = true := by decide +kernel
  have := List.all_eq_true.mp key a (List.mem_range.mpr (kshp_lt h))
  simp only [h, decide_true, Bool.not_true, Bool.false_or, decide_eq_true_eq] at this
  exact this
theorem kar10 {a : Nat} (h : kshp a = some (.inl 10)) : kshp (a + 1) = some (.inr (0, 40)) ∧ kshp (a + 2) = some (.inr (0, 40)) ∧ kshp (a + 3) = some (.inr (0, 40)) := by
  rcases kad10 h with rfl | rfl <;> exact ⟨rfl, rfl, rfl⟩
theorem kad7 {a : Nat} (h : kshp a = some (.inl 7)) : a = 147 ∨ a = 158 ∨ a = 166 ∨ a = 174 ∨ a = 182 := by
  have key : (List.range 209).all (fun a => !(decide (kshp a = some (.inl 7))) || decide (a = 147 ∨ a = 158 ∨ a = 166 ∨ a = 174 ∨ a = 182)) = true := by decide +kernel
  have := List.all_eq_true.mp key a (List.mem_range.mpr (kshp_lt h))
  simp only [h, decide_true, Bool.not_true, Bool.false_or, decide_eq_true_eq] at this
  exact this
theorem kar7 {a : Nat} (h : kshp a = some (.inl 7)) : kshp (a + 1) = some (.inr (0, 8)) ∧ kshp (a + 2) = some (.inr (0, 8)) := by
  rcases kad7 h with rfl | rfl | rfl | rfl | rfl <;> exact ⟨rfl, rfl⟩
theorem kad0 {a : Nat} (h : kshp a = some (.inl 0)) : a = 10 ∨ a = 23 := by
  have key : (List.range 209).all (fun a => !(decide (kshp a = some (.inl 0))) || decide (a = 10 ∨ a = 23)) = true := by decide +kernel
  have := List.all_eq_true.mp key a (List.mem_range.mpr (kshp_lt h))
  simp only [h, decide_true, Bool.not_true, Bool.false_or, decide_eq_true_eq] at this
  exact this
theorem kar0 {a : Nat} (h : kshp a = some (.inl 0)) : kshp (a + 1) = some (.inr (0, 1000)) ∧ kshp (a + 2) = some (.inr (0, 32)) := by
  rcases kad0 h with rfl | rfl <;> exact ⟨rfl, rfl⟩
theorem kad6 {a : Nat} (h : kshp a = some (.inl 6)) : a = 5 ∨ a = 18 := by
  have key : (List.range 209).all (fun a => !(decide (kshp a = some (.inl 6))) || decide (a = 5 ∨ a = 18)) = true := by decide +kernel
  have := List.all_eq_true.mp key a (List.mem_range.mpr (kshp_lt h))
  simp only [h, decide_true, Bool.not_true, Bool.false_or, decide_eq_true_eq] at this
  exact this
theorem kar6 {a : Nat} (h : kshp a = some (.inl 6)) : kshp (a + 1) = some (.inr (1, 7)) ∧ kshp (a + 2) = some (.inr (1, 7)) ∧ kshp (a + 3) = some (.inr (0, 7)) ∧ kshp (a + 4) = some (.inr (0, 7)) ∧ kshp (a + 5) = some (.inl 0) ∧ kshp (a + 8) = some (.inl 9) := by
  rcases kad6 h with rfl | rfl <;> exact ⟨rfl, rfl, rfl, rfl, rfl, rfl⟩
section KB
variable {I : Nat → Nat → Int32} {J : Nat → Nat → Int64} {rf : Nat → Nat} {g a : Nat}
theorem kg0_0 (h : kshp a = some (.inl 0)) : kgI (kmm I J rf g) a 0 0 = some (I a 0) := kgI_m h (by decide) rfl
theorem kp0_0 {x : Int32} (h : kshp a = some (.inl 0)) : kpf (kmm I J rf g) a 0 0 (.int x) = some (kmm (ku I a 0 x) J rf g) := kpI_m h (by decide) rfl
theorem kg0_1 (h : kshp a = some (.inl 0)) : kgR (kmm I J rf g) a 0 1 = some (a + 1) := by rw [kgR_m h (by decide) rfl]; simp only [krf, h]; first | done | rfl
theorem kg0_2 (h : kshp a = some (.inl 0)) : kgR (kmm I J rf g) a 0 2 = some (a + 2) := by rw [kgR_m h (by decide) rfl]; simp only [krf, h]; first | done | rfl
theorem kg1_0 : kgR (kmm I J rf g) 4 1 0 = some 1 := by rw [kgR_m ks4 (by decide) rfl]; rfl
theorem kg2_0 : kgI (kmm I J rf g) 1 2 0 = some (I 1 0) := kgI_m ks1 (by decide) rfl
theorem kp2_0 {x : Int32} : kpf (kmm I J rf g) 1 2 0 (.int x) = some (kmm (ku I 1 0 x) J rf g) := kpI_m ks1 (by decide) rfl
theorem kg2_1 : kgR (kmm I J rf g) 1 2 1 = some 2 := by rw [kgR_m ks1 (by decide) rfl]; rfl
theorem kg2_2 : kgI (kmm I J rf g) 1 2 2 = some (I 1 2) := kgI_m ks1 (by decide) rfl
theorem kp2_2 {x : Int32} : kpf (kmm I J rf g) 1 2 2 (.int x) = some (kmm (ku I 1 2 x) J rf g) := kpI_m ks1 (by decide) rfl
theorem kg2_3 : kgI (kmm I J rf g) 1 2 3 = some (I 1 3) := kgI_m ks1 (by decide) rfl
theorem kp2_3 {x : Int32} : kpf (kmm I J rf g) 1 2 3 (.int x) = some (kmm (ku I 1 3 x) J rf g) := kpI_m ks1 (by decide) rfl
theorem kg2_4 : kgI (kmm I J rf g) 1 2 4 = some (I 1 4) := kgI_m ks1 (by decide) rfl
theorem kp2_4 {x : Int32} : kpf (kmm I J rf g) 1 2 4 (.int x) = some (kmm (ku I 1 4 x) J rf g) := kpI_m ks1 (by decide) rfl
theorem kg2_5 : kgI (kmm I J rf g) 1 2 5 = some (I 1 5) := kgI_m ks1 (by decide) rfl
theorem kp2_5 {x : Int32} : kpf (kmm I J rf g) 1 2 5 (.int x) = some (kmm (ku I 1 5 x) J rf g) := kpI_m ks1 (by decide) rfl
theorem kg2_6 : kgJ (kmm I J rf g) 1 2 6 = some (J 1 6) := kgJ_m ks1 (by decide) rfl
theorem kp2_6 {x : Int64} : kpf (kmm I J rf g) 1 2 6 (.long x) = some (kmm I (ku J 1 6 x) rf g) := kpJ_m ks1 (by decide) rfl
theorem kg2_7 : kgI (kmm I J rf g) 1 2 7 = some (I 1 7) := kgI_m ks1 (by decide) rfl
theorem kp2_7 {x : Int32} : kpf (kmm I J rf g) 1 2 7 (.int x) = some (kmm (ku I 1 7 x) J rf g) := kpI_m ks1 (by decide) rfl
theorem kg3_0 : kgI (kmm I J rf g) 65 3 0 = some (I 65 0) := kgI_m ks65 (by decide) rfl
theorem kp3_0 {x : Int32} : kpf (kmm I J rf g) 65 3 0 (.int x) = some (kmm (ku I 65 0 x) J rf g) := kpI_m ks65 (by decide) rfl
theorem kg3_1 : kgI (kmm I J rf g) 65 3 1 = some (I 65 1) := kgI_m ks65 (by decide) rfl
theorem kp3_1 {x : Int32} : kpf (kmm I J rf g) 65 3 1 (.int x) = some (kmm (ku I 65 1 x) J rf g) := kpI_m ks65 (by decide) rfl
theorem kg3_2 : kgR (kmm I J rf g) 65 3 2 = some 66 := by rw [kgR_m ks65 (by decide) rfl]; rfl
theorem kg4_0 : kgR (kmm I J rf g) 62 4 0 = some 63 := by rw [kgR_m ks62 (by decide) rfl]; rfl
theorem kg4_1 : kgR (kmm I J rf g) 62 4 1 = some 64 := by rw [kgR_m ks62 (by decide) rfl]; rfl
theorem kg5_0 : kgR (kmm I J rf g) 3 5 0 = some 1 := by rw [kgR_m ks3 (by decide) rfl]; rfl
theorem kg5_1 : kgR (kmm I J rf g) 3 5 1 = some 4 := by rw [kgR_m ks3 (by decide) rfl]; rfl
theorem kg5_2 : kgJ (kmm I J rf g) 3 5 2 = some (J 3 2) := kgJ_m ks3 (by decide) rfl
theorem kp5_2 {x : Int64} : kpf (kmm I J rf g) 3 5 2 (.long x) = some (kmm I (ku J 3 2 x) rf g) := kpJ_m ks3 (by decide) rfl
theorem kg5_3 : kgI (kmm I J rf g) 3 5 3 = some (I 3 3) := kgI_m ks3 (by decide) rfl
theorem kp5_3 {x : Int32} : kpf (kmm I J rf g) 3 5 3 (.int x) = some (kmm (ku I 3 3 x) J rf g) := kpI_m ks3 (by decide) rfl
theorem kg5_4 : kgI (kmm I J rf g) 3 5 4 = some (I 3 4) := kgI_m ks3 (by decide) rfl
theorem kp5_4 {x : Int32} : kpf (kmm I J rf g) 3 5 4 (.int x) = some (kmm (ku I 3 4 x) J rf g) := kpI_m ks3 (by decide) rfl
theorem kg5_5 : kgJ (kmm I J rf g) 3 5 5 = some (J 3 5) := kgJ_m ks3 (by decide) rfl
theorem kp5_5 {x : Int64} : kpf (kmm I J rf g) 3 5 5 (.long x) = some (kmm I (ku J 3 5 x) rf g) := kpJ_m ks3 (by decide) rfl
theorem kg6_0 (h : kshp a = some (.inl 6)) : kgI (kmm I J rf g) a 6 0 = some (I a 0) := kgI_m h (by decide) rfl
theorem kp6_0 {x : Int32} (h : kshp a = some (.inl 6)) : kpf (kmm I J rf g) a 6 0 (.int x) = some (kmm (ku I a 0 x) J rf g) := kpI_m h (by decide) rfl
theorem kg6_1 (h : kshp a = some (.inl 6)) : kgI (kmm I J rf g) a 6 1 = some (I a 1) := kgI_m h (by decide) rfl
theorem kp6_1 {x : Int32} (h : kshp a = some (.inl 6)) : kpf (kmm I J rf g) a 6 1 (.int x) = some (kmm (ku I a 1 x) J rf g) := kpI_m h (by decide) rfl
theorem kg6_2 (h : kshp a = some (.inl 6)) : kgR (kmm I J rf g) a 6 2 = some (a + 1) := by rw [kgR_m h (by decide) rfl]; simp only [krf, h]; first | done | rfl
theorem kg6_3 (h : kshp a = some (.inl 6)) : kgR (kmm I J rf g) a 6 3 = some (a + 2) := by rw [kgR_m h (by decide) rfl]; simp only [krf, h]; first | done | rfl
theorem kg6_4 (h : kshp a = some (.inl 6)) : kgR (kmm I J rf g) a 6 4 = some (a + 3) := by rw [kgR_m h (by decide) rfl]; simp only [krf, h]; first | done | rfl
theorem kg6_5 (h : kshp a = some (.inl 6)) : kgR (kmm I J rf g) a 6 5 = some (a + 4) := by rw [kgR_m h (by decide) rfl]; simp only [krf, h]; first | done | rfl
theorem kg6_6 (h : kshp a = some (.inl 6)) : kgR (kmm I J rf g) a 6 6 = some (a + 5) := by rw [kgR_m h (by decide) rfl]; simp only [krf, h]; first | done | rfl
theorem kg6_7 (h : kshp a = some (.inl 6)) : kgR (kmm I J rf g) a 6 7 = some (a + 8) := by rw [kgR_m h (by decide) rfl]; simp only [krf, h]; first | done | rfl
theorem kg7_0 (h : kshp a = some (.inl 7)) : kgI (kmm I J rf g) a 7 0 = some (I a 0) := kgI_m h (by decide) rfl
theorem kp7_0 {x : Int32} (h : kshp a = some (.inl 7)) : kpf (kmm I J rf g) a 7 0 (.int x) = some (kmm (ku I a 0 x) J rf g) := kpI_m h (by decide) rfl
theorem kg7_1 (h : kshp a = some (.inl 7)) : kgR (kmm I J rf g) a 7 1 = some (a + 1) := by rw [kgR_m h (by decide) rfl]; simp only [krf, h]; first | done | rfl
theorem kg7_2 (h : kshp a = some (.inl 7)) : kgR (kmm I J rf g) a 7 2 = some (a + 2) := by rw [kgR_m h (by decide) rfl]; simp only [krf, h]; first | done | rfl
theorem kg7_3 (h : kshp a = some (.inl 7)) : kgI (kmm I J rf g) a 7 3 = some (I a 3) := kgI_m h (by decide) rfl
theorem kp7_3 {x : Int32} (h : kshp a = some (.inl 7)) : kpf (kmm I J rf g) a 7 3 (.int x) = some (kmm (ku I a 3 x) J rf g) := kpI_m h (by decide) rfl
theorem kg8_0 : kgI (kmm I J rf g) 54 8 0 = some (I 54 0) := kgI_m ks54 (by decide) rfl
theorem kp8_0 {x : Int32} : kpf (kmm I J rf g) 54 8 0 (.int x) = some (kmm (ku I 54 0 x) J rf g) := kpI_m ks54 (by decide) rfl
theorem kg8_1 : kgR (kmm I J rf g) 54 8 1 = some 55 := by rw [kgR_m ks54 (by decide) rfl]; rfl
theorem kg8_2 : kgR (kmm I J rf g) 54 8 2 = some 56 := by rw [kgR_m ks54 (by decide) rfl]; rfl
theorem kg8_3 : kgR (kmm I J rf g) 54 8 3 = some 57 := by rw [kgR_m ks54 (by decide) rfl]; rfl
theorem kg8_4 : kgR (kmm I J rf g) 54 8 4 = some 58 := by rw [kgR_m ks54 (by decide) rfl]; rfl
theorem kg8_5 : kgR (kmm I J rf g) 54 8 5 = some 59 := by rw [kgR_m ks54 (by decide) rfl]; rfl
theorem kg8_6 : kgR (kmm I J rf g) 54 8 6 = some 60 := by rw [kgR_m ks54 (by decide) rfl]; rfl
theorem kg8_7 : kgR (kmm I J rf g) 54 8 7 = some 61 := by rw [kgR_m ks54 (by decide) rfl]; rfl
theorem kg9_0 (h : kshp a = some (.inl 9)) : kgI (kmm I J rf g) a 9 0 = some (I a 0) := kgI_m h (by decide) rfl
theorem kp9_0 {x : Int32} (h : kshp a = some (.inl 9)) : kpf (kmm I J rf g) a 9 0 (.int x) = some (kmm (ku I a 0 x) J rf g) := kpI_m h (by decide) rfl
theorem kg9_1 (h : kshp a = some (.inl 9)) : kgI (kmm I J rf g) a 9 1 = some (I a 1) := kgI_m h (by decide) rfl
theorem kp9_1 {x : Int32} (h : kshp a = some (.inl 9)) : kpf (kmm I J rf g) a 9 1 (.int x) = some (kmm (ku I a 1 x) J rf g) := kpI_m h (by decide) rfl
theorem kg9_2 (h : kshp a = some (.inl 9)) : kgR (kmm I J rf g) a 9 2 = some (a + 1) := by rw [kgR_m h (by decide) rfl]; simp only [krf, h]; first | done | rfl
theorem kg9_3 (h : kshp a = some (.inl 9)) : kgR (kmm I J rf g) a 9 3 = some (a + 2) := by rw [kgR_m h (by decide) rfl]; simp only [krf, h]; first | done | rfl
theorem kg9_4 (h : kshp a = some (.inl 9)) : kgR (kmm I J rf g) a 9 4 = some (a + 3) := by rw [kgR_m h (by decide) rfl]; simp only [krf, h]; first | done | rfl
theorem kg9_5 (h : kshp a = some (.inl 9)) : kgR (kmm I J rf g) a 9 5 = some (a + 4) := by rw [kgR_m h (by decide) rfl]; simp only [krf, h]; first | done | rfl
theorem kg10_0 (h : kshp a = some (.inl 10)) : kgI (kmm I J rf g) a 10 0 = some (I a 0) := kgI_m h (by decide) rfl
theorem kp10_0 {x : Int32} (h : kshp a = some (.inl 10)) : kpf (kmm I J rf g) a 10 0 (.int x) = some (kmm (ku I a 0 x) J rf g) := kpI_m h (by decide) rfl
theorem kg10_1 (h : kshp a = some (.inl 10)) : kgR (kmm I J rf g) a 10 1 = some (a + 1) := by rw [kgR_m h (by decide) rfl]; simp only [krf, h]; first | done | rfl
theorem kg10_2 (h : kshp a = some (.inl 10)) : kgR (kmm I J rf g) a 10 2 = some (a + 2) := by rw [kgR_m h (by decide) rfl]; simp only [krf, h]; first | done | rfl
theorem kg10_3 (h : kshp a = some (.inl 10)) : kgR (kmm I J rf g) a 10 3 = some (a + 3) := by rw [kgR_m h (by decide) rfl]; simp only [krf, h]; first | done | rfl
theorem kg11_0 : kgR (kmm I J rf g) 0 11 0 = some 1 := by rw [kgR_m ks0 (by decide) rfl]; rfl
theorem kg11_1 : kgR (kmm I J rf g) 0 11 1 = some 3 := by rw [kgR_m ks0 (by decide) rfl]; rfl
theorem kg11_2 : kgR (kmm I J rf g) 0 11 2 = some (rf 2) := by rw [kgR_m ks0 (by decide) rfl]; rfl
theorem kg11_3 : kgR (kmm I J rf g) 0 11 3 = some (rf 3) := by rw [kgR_m ks0 (by decide) rfl]; rfl
theorem kg11_4 : kgR (kmm I J rf g) 0 11 4 = some (rf 4) := by rw [kgR_m ks0 (by decide) rfl]; rfl
theorem kg11_5 : kgR (kmm I J rf g) 0 11 5 = some (rf 5) := by rw [kgR_m ks0 (by decide) rfl]; rfl
theorem kg11_6 : kgR (kmm I J rf g) 0 11 6 = some 39 := by rw [kgR_m ks0 (by decide) rfl]; rfl
theorem kg11_7 : kgR (kmm I J rf g) 0 11 7 = some 44 := by rw [kgR_m ks0 (by decide) rfl]; rfl
theorem kg11_8 : kgR (kmm I J rf g) 0 11 8 = some 49 := by rw [kgR_m ks0 (by decide) rfl]; rfl
theorem kg11_9 : kgR (kmm I J rf g) 0 11 9 = some 54 := by rw [kgR_m ks0 (by decide) rfl]; rfl
theorem kg11_10 : kgR (kmm I J rf g) 0 11 10 = some 62 := by rw [kgR_m ks0 (by decide) rfl]; rfl
theorem kg11_11 : kgR (kmm I J rf g) 0 11 11 = some 65 := by rw [kgR_m ks0 (by decide) rfl]; rfl
theorem kg11_12 : kgR (kmm I J rf g) 0 11 12 = some 147 := by rw [kgR_m ks0 (by decide) rfl]; rfl
theorem kg11_13 : kgR (kmm I J rf g) 0 11 13 = some 150 := by rw [kgR_m ks0 (by decide) rfl]; rfl
theorem kg11_14 : kgR (kmm I J rf g) 0 11 14 = some 151 := by rw [kgR_m ks0 (by decide) rfl]; rfl
theorem kg11_15 : kgR (kmm I J rf g) 0 11 15 = some 152 := by rw [kgR_m ks0 (by decide) rfl]; rfl
theorem kg11_16 : kgI (kmm I J rf g) 0 11 16 = some (I 0 16) := kgI_m ks0 (by decide) rfl
theorem kp11_16 {x : Int32} : kpf (kmm I J rf g) 0 11 16 (.int x) = some (kmm (ku I 0 16 x) J rf g) := kpI_m ks0 (by decide) rfl
theorem kg12_0 : kgI (kmm I J rf g) 185 12 0 = some (I 185 0) := kgI_m ks185 (by decide) rfl
theorem kp12_0 {x : Int32} : kpf (kmm I J rf g) 185 12 0 (.int x) = some (kmm (ku I 185 0 x) J rf g) := kpI_m ks185 (by decide) rfl
theorem kg12_1 : kgR (kmm I J rf g) 185 12 1 = some 186 := by rw [kgR_m ks185 (by decide) rfl]; rfl
theorem kg12_2 : kgI (kmm I J rf g) 185 12 2 = some (I 185 2) := kgI_m ks185 (by decide) rfl
theorem kp12_2 {x : Int32} : kpf (kmm I J rf g) 185 12 2 (.int x) = some (kmm (ku I 185 2 x) J rf g) := kpI_m ks185 (by decide) rfl
theorem kg12_3 : kgI (kmm I J rf g) 185 12 3 = some (I 185 3) := kgI_m ks185 (by decide) rfl
theorem kp12_3 {x : Int32} : kpf (kmm I J rf g) 185 12 3 (.int x) = some (kmm (ku I 185 3 x) J rf g) := kpI_m ks185 (by decide) rfl
theorem kg12_4 : kgR (kmm I J rf g) 185 12 4 = some 187 := by rw [kgR_m ks185 (by decide) rfl]; rfl
theorem kg12_5 : kgR (kmm I J rf g) 185 12 5 = some 188 := by rw [kgR_m ks185 (by decide) rfl]; rfl
theorem kg12_6 : kgR (kmm I J rf g) 185 12 6 = some 189 := by rw [kgR_m ks185 (by decide) rfl]; rfl
theorem kg12_7 : kgI (kmm I J rf g) 185 12 7 = some (I 185 7) := kgI_m ks185 (by decide) rfl
theorem kp12_7 {x : Int32} : kpf (kmm I J rf g) 185 12 7 (.int x) = some (kmm (ku I 185 7 x) J rf g) := kpI_m ks185 (by decide) rfl
theorem kg12_8 : kgI (kmm I J rf g) 185 12 8 = some (I 185 8) := kgI_m ks185 (by decide) rfl
theorem kp12_8 {x : Int32} : kpf (kmm I J rf g) 185 12 8 (.int x) = some (kmm (ku I 185 8 x) J rf g) := kpI_m ks185 (by decide) rfl
theorem kg12_9 : kgR (kmm I J rf g) 185 12 9 = some 190 := by rw [kgR_m ks185 (by decide) rfl]; rfl
theorem kg12_10 : kgR (kmm I J rf g) 185 12 10 = some 191 := by rw [kgR_m ks185 (by decide) rfl]; rfl
theorem kg12_11 : kgR (kmm I J rf g) 185 12 11 = some 192 := by rw [kgR_m ks185 (by decide) rfl]; rfl
theorem kg12_12 : kgR (kmm I J rf g) 185 12 12 = some 193 := by rw [kgR_m ks185 (by decide) rfl]; rfl
theorem kg12_13 : kgI (kmm I J rf g) 185 12 13 = some (I 185 13) := kgI_m ks185 (by decide) rfl
theorem kp12_13 {x : Int32} : kpf (kmm I J rf g) 185 12 13 (.int x) = some (kmm (ku I 185 13 x) J rf g) := kpI_m ks185 (by decide) rfl
theorem kg12_14 : kgR (kmm I J rf g) 185 12 14 = some 194 := by rw [kgR_m ks185 (by decide) rfl]; rfl
theorem kg12_15 : kgR (kmm I J rf g) 185 12 15 = some 195 := by rw [kgR_m ks185 (by decide) rfl]; rfl
theorem kg12_16 : kgR (kmm I J rf g) 185 12 16 = some 196 := by rw [kgR_m ks185 (by decide) rfl]; rfl
theorem kg12_17 : kgR (kmm I J rf g) 185 12 17 = some 197 := by rw [kgR_m ks185 (by decide) rfl]; rfl
theorem kg12_18 : kgI (kmm I J rf g) 185 12 18 = some (I 185 18) := kgI_m ks185 (by decide) rfl
theorem kp12_18 {x : Int32} : kpf (kmm I J rf g) 185 12 18 (.int x) = some (kmm (ku I 185 18 x) J rf g) := kpI_m ks185 (by decide) rfl
theorem kg12_19 : kgI (kmm I J rf g) 185 12 19 = some (I 185 19) := kgI_m ks185 (by decide) rfl
theorem kp12_19 {x : Int32} : kpf (kmm I J rf g) 185 12 19 (.int x) = some (kmm (ku I 185 19 x) J rf g) := kpI_m ks185 (by decide) rfl
theorem kg12_20 : kgR (kmm I J rf g) 185 12 20 = some 198 := by rw [kgR_m ks185 (by decide) rfl]; rfl
theorem kg12_21 : kgR (kmm I J rf g) 185 12 21 = some 199 := by rw [kgR_m ks185 (by decide) rfl]; rfl
theorem kg12_22 : kgR (kmm I J rf g) 185 12 22 = some 200 := by rw [kgR_m ks185 (by decide) rfl]; rfl
theorem kg12_23 : kgR (kmm I J rf g) 185 12 23 = some 201 := by rw [kgR_m ks185 (by decide) rfl]; rfl
theorem kg12_24 : kgI (kmm I J rf g) 185 12 24 = some (I 185 24) := kgI_m ks185 (by decide) rfl
theorem kp12_24 {x : Int32} : kpf (kmm I J rf g) 185 12 24 (.int x) = some (kmm (ku I 185 24 x) J rf g) := kpI_m ks185 (by decide) rfl
theorem kg12_25 : kgR (kmm I J rf g) 185 12 25 = some 202 := by rw [kgR_m ks185 (by decide) rfl]; rfl
theorem kg12_26 : kgR (kmm I J rf g) 185 12 26 = some 203 := by rw [kgR_m ks185 (by decide) rfl]; rfl
theorem kg12_27 : kgR (kmm I J rf g) 185 12 27 = some 204 := by rw [kgR_m ks185 (by decide) rfl]; rfl
theorem kg12_28 : kgI (kmm I J rf g) 185 12 28 = some (I 185 28) := kgI_m ks185 (by decide) rfl
theorem kp12_28 {x : Int32} : kpf (kmm I J rf g) 185 12 28 (.int x) = some (kmm (ku I 185 28 x) J rf g) := kpI_m ks185 (by decide) rfl
theorem kg12_29 : kgR (kmm I J rf g) 185 12 29 = some 205 := by rw [kgR_m ks185 (by decide) rfl]; rfl
theorem kg12_30 : kgR (kmm I J rf g) 185 12 30 = some 206 := by rw [kgR_m ks185 (by decide) rfl]; rfl
theorem kg12_31 : kgR (kmm I J rf g) 185 12 31 = some 207 := by rw [kgR_m ks185 (by decide) rfl]; rfl
theorem kg12_32 : kgI (kmm I J rf g) 185 12 32 = some (I 185 32) := kgI_m ks185 (by decide) rfl
theorem kp12_32 {x : Int32} : kpf (kmm I J rf g) 185 12 32 (.int x) = some (kmm (ku I 185 32 x) J rf g) := kpI_m ks185 (by decide) rfl
theorem kg12_33 : kgJ (kmm I J rf g) 185 12 33 = some (J 185 33) := kgJ_m ks185 (by decide) rfl
theorem kp12_33 {x : Int64} : kpf (kmm I J rf g) 185 12 33 (.long x) = some (kmm I (ku J 185 33 x) rf g) := kpJ_m ks185 (by decide) rfl
end KB
