set_option maxRecDepth 100000 in
theorem kcx_0 : lw_tbl[kcw 0]? = some (.code (ky 0) (kby 0) (kmax 0) (kret 0)) := by rfl
set_option maxRecDepth 100000 in
theorem kcx_1 : lw_tbl[kcw 1]? = some (.code (ky 1) (kby 1) (kmax 1) (kret 1)) := by rfl
set_option maxRecDepth 100000 in
theorem kcx_2 : lw_tbl[kcw 2]? = some (.code (ky 2) (kby 2) (kmax 2) (kret 2)) := by rfl
set_option maxRecDepth 100000 in
theorem kcx_3 : lw_tbl[kcw 3]? = some (.code (ky 3) (kby 3) (kmax 3) (kret 3)) := by rfl
set_option maxRecDepth 100000 in
theorem kcx_4 : lw_tbl[kcw 4]? = some (.code (ky 4) (kby 4) (kmax 4) (kret 4)) := by rfl
set_option maxRecDepth 100000 in
theorem kcx_5 : lw_tbl[kcw 5]? = some (.code (ky 5) (kby 5) (kmax 5) (kret 5)) := by rfl
set_option maxRecDepth 100000 in
theorem kcx_6 : lw_tbl[kcw 6]? = some (.code (ky 6) (kby 6) (kmax 6) (kret 6)) := by rfl
set_option maxRecDepth 100000 in
theorem kcx_7 : lw_tbl[kcw 7]? = some (.code (ky 7) (kby 7) (kmax 7) (kret 7)) := by rfl
set_option maxRecDepth 100000 in
theorem kcx_8 : lw_tbl[kcw 8]? = some (.code (ky 8) (kby 8) (kmax 8) (kret 8)) := by rfl
set_option maxRecDepth 100000 in
theorem kcx_9 : lw_tbl[kcw 9]? = some (.code (ky 9) (kby 9) (kmax 9) (kret 9)) := by rfl
set_option maxRecDepth 100000 in
theorem kcx_10 : lw_tbl[kcw 10]? = some (.code (ky 10) (kby 10) (kmax 10) (kret 10)) := by rfl
set_option maxRecDepth 100000 in
theorem kcx_11 : lw_tbl[kcw 11]? = some (.code (ky 11) (kby 11) (kmax 11) (kret 11)) := by rfl
set_option maxRecDepth 100000 in
theorem kcx_12 : lw_tbl[kcw 12]? = some (.code (ky 12) (kby 12) (kmax 12) (kret 12)) := by rfl
set_option maxRecDepth 100000 in
theorem kcx_13 : lw_tbl[kcw 13]? = some (.code (ky 13) (kby 13) (kmax 13) (kret 13)) := by rfl
set_option maxRecDepth 100000 in
theorem kcx_14 : lw_tbl[kcw 14]? = some (.code (ky 14) (kby 14) (kmax 14) (kret 14)) := by rfl
set_option maxRecDepth 100000 in
theorem kcx_15 : lw_tbl[kcw 15]? = some (.code (ky 15) (kby 15) (kmax 15) (kret 15)) := by rfl
set_option maxRecDepth 100000 in
theorem kcx_16 : lw_tbl[kcw 16]? = some (.code (ky 16) (kby 16) (kmax 16) (kret 16)) := by rfl
set_option maxRecDepth 100000 in
theorem kcx_17 : lw_tbl[kcw 17]? = some (.code (ky 17) (kby 17) (kmax 17) (kret 17)) := by rfl
set_option maxRecDepth 100000 in
theorem kcx_18 : lw_tbl[kcw 18]? = some (.code (ky 18) (kby 18) (kmax 18) (kret 18)) := by rfl
set_option maxRecDepth 100000 in
theorem kcx_19 : lw_tbl[kcw 19]? = some (.code (ky 19) (kby 19) (kmax 19) (kret 19)) := by rfl
set_option maxRecDepth 100000 in
theorem kcx_20 : lw_tbl[kcw 20]? = some (.code (ky 20) (kby 20) (kmax 20) (kret 20)) := by rfl
set_option maxRecDepth 100000 in
theorem kcx_21 : lw_tbl[kcw 21]? = some (.code (ky 21) (kby 21) (kmax 21) (kret 21)) := by rfl
set_option maxRecDepth 100000 in
theorem kcx_22 : lw_tbl[kcw 22]? = some (.code (ky 22) (kby 22) (kmax 22) (kret 22)) := by rfl
set_option maxRecDepth 100000 in
theorem kcx_23 : lw_tbl[kcw 23]? = some (.code (ky 23) (kby 23) (kmax 23) (kret 23)) := by rfl
set_option maxRecDepth 100000 in
theorem kcx_24 : lw_tbl[kcw 24]? = some (.code (ky 24) (kby 24) (kmax 24) (kret 24)) := by rfl
set_option maxRecDepth 100000 in
theorem kcx_25 : lw_tbl[kcw 25]? = some (.code (ky 25) (kby 25) (kmax 25) (kret 25)) := by rfl
set_option maxRecDepth 100000 in
theorem kcx_26 : lw_tbl[kcw 26]? = some (.code (ky 26) (kby 26) (kmax 26) (kret 26)) := by rfl
set_option maxRecDepth 100000 in
theorem kcx_27 : lw_tbl[kcw 27]? = some (.code (ky 27) (kby 27) (kmax 27) (kret 27)) := by rfl
set_option maxRecDepth 100000 in
theorem kcx_28 : lw_tbl[kcw 28]? = some (.code (ky 28) (kby 28) (kmax 28) (kret 28)) := by rfl
set_option maxRecDepth 100000 in
theorem kcx_29 : lw_tbl[kcw 29]? = some (.code (ky 29) (kby 29) (kmax 29) (kret 29)) := by rfl
set_option maxRecDepth 100000 in
theorem kcx_30 : lw_tbl[kcw 30]? = some (.code (ky 30) (kby 30) (kmax 30) (kret 30)) := by rfl
set_option maxRecDepth 100000 in
theorem kcx_31 : lw_tbl[kcw 31]? = some (.code (ky 31) (kby 31) (kmax 31) (kret 31)) := by rfl
set_option maxRecDepth 100000 in
theorem kcx_32 : lw_tbl[kcw 32]? = some (.code (ky 32) (kby 32) (kmax 32) (kret 32)) := by rfl
set_option maxRecDepth 100000 in
theorem kcx_33 : lw_tbl[kcw 33]? = some (.code (ky 33) (kby 33) (kmax 33) (kret 33)) := by rfl
set_option maxRecDepth 100000 in
theorem kcx_34 : lw_tbl[kcw 34]? = some (.code (ky 34) (kby 34) (kmax 34) (kret 34)) := by rfl
set_option maxRecDepth 100000 in
theorem kcx_35 : lw_tbl[kcw 35]? = some (.code (ky 35) (kby 35) (kmax 35) (kret 35)) := by rfl
set_option maxRecDepth 100000 in
theorem kcx_36 : lw_tbl[kcw 36]? = some (.code (ky 36) (kby 36) (kmax 36) (kret 36)) := by rfl
set_option maxRecDepth 100000 in
theorem kcx_37 : lw_tbl[kcw 37]? = some (.code (ky 37) (kby 37) (kmax 37) (kret 37)) := by rfl
set_option maxRecDepth 100000 in
theorem kcx_38 : lw_tbl[kcw 38]? = some (.code (ky 38) (kby 38) (kmax 38) (kret 38)) := by rfl
set_option maxRecDepth 100000 in
theorem kcx_39 : lw_tbl[kcw 39]? = some (.code (ky 39) (kby 39) (kmax 39) (kret 39)) := by rfl
set_option maxRecDepth 100000 in
theorem kcx_40 : lw_tbl[kcw 40]? = some (.code (ky 40) (kby 40) (kmax 40) (kret 40)) := by rfl
set_option maxRecDepth 100000 in
theorem kcx_41 : lw_tbl[kcw 41]? = some (.code (ky 41) (kby 41) (kmax 41) (kret 41)) := by rfl
set_option maxRecDepth 100000 in
theorem kcx_42 : lw_tbl[kcw 42]? = some (.code (ky 42) (kby 42) (kmax 42) (kret 42)) := by rfl
set_option maxRecDepth 100000 in
theorem kcx_43 : lw_tbl[kcw 43]? = some (.code (ky 43) (kby 43) (kmax 43) (kret 43)) := by rfl
set_option maxRecDepth 100000 in
theorem kcx_44 : lw_tbl[kcw 44]? = some (.code (ky 44) (kby 44) (kmax 44) (kret 44)) := by rfl
set_option maxRecDepth 100000 in
theorem kcx_45 : lw_tbl[kcw 45]? = some (.code (ky 45) (kby 45) (kmax 45) (kret 45)) := by rfl
set_option maxRecDepth 100000 in
theorem kcx_46 : lw_tbl[kcw 46]? = some (.code (ky 46) (kby 46) (kmax 46) (kret 46)) := by rfl
set_option maxRecDepth 100000 in
theorem kcx_47 : lw_tbl[kcw 47]? = some (.code (ky 47) (kby 47) (kmax 47) (kret 47)) := by rfl
set_option maxRecDepth 100000 in
theorem kcx_48 : lw_tbl[kcw 48]? = some (.code (ky 48) (kby 48) (kmax 48) (kret 48)) := by rfl
set_option maxRecDepth 100000 in
theorem kcx_49 : lw_tbl[kcw 49]? = some (.code (ky 49) (kby 49) (kmax 49) (kret 49)) := by rfl
set_option maxRecDepth 100000 in
theorem kcx_50 : lw_tbl[kcw 50]? = some (.code (ky 50) (kby 50) (kmax 50) (kret 50)) := by rfl
set_option maxRecDepth 100000 in
theorem kcx_51 : lw_tbl[kcw 51]? = some (.code (ky 51) (kby 51) (kmax 51) (kret 51)) := by rfl
set_option maxRecDepth 100000 in
theorem kcx_52 : lw_tbl[kcw 52]? = some (.code (ky 52) (kby 52) (kmax 52) (kret 52)) := by rfl
set_option maxRecDepth 100000 in
theorem kcx_53 : lw_tbl[kcw 53]? = some (.code (ky 53) (kby 53) (kmax 53) (kret 53)) := by rfl
set_option maxRecDepth 100000 in
theorem kcx_54 : lw_tbl[kcw 54]? = some (.code (ky 54) (kby 54) (kmax 54) (kret 54)) := by rfl
set_option maxRecDepth 100000 in
theorem kcx_55 : lw_tbl[kcw 55]? = some (.code (ky 55) (kby 55) (kmax 55) (kret 55)) := by rfl
set_option maxRecDepth 100000 in
theorem kcx_56 : lw_tbl[kcw 56]? = some (.code (ky 56) (kby 56) (kmax 56) (kret 56)) := by rfl
set_option maxRecDepth 100000 in
theorem kcx_57 : lw_tbl[kcw 57]? = some (.code (ky 57) (kby 57) (kmax 57) (kret 57)) := by rfl
set_option maxRecDepth 100000 in
theorem kcx_58 : lw_tbl[kcw 58]? = some (.code (ky 58) (kby 58) (kmax 58) (kret 58)) := by rfl
set_option maxRecDepth 100000 in
theorem kcx_59 : lw_tbl[kcw 59]? = some (.code (ky 59) (kby 59) (kmax 59) (kret 59)) := by rfl
set_option maxRecDepth 100000 in
theorem kcx_60 : lw_tbl[kcw 60]? = some (.code (ky 60) (kby 60) (kmax 60) (kret 60)) := by rfl
set_option maxRecDepth 100000 in
theorem kcx_61 : lw_tbl[kcw 61]? = some (.code (ky 61) (kby 61) (kmax 61) (kret 61)) := by rfl
set_option maxRecDepth 100000 in
theorem kcx_62 : lw_tbl[kcw 62]? = some (.code (ky 62) (kby 62) (kmax 62) (kret 62)) := by rfl
set_option maxRecDepth 100000 in
theorem kcx_63 : lw_tbl[kcw 63]? = some (.code (ky 63) (kby 63) (kmax 63) (kret 63)) := by rfl
set_option maxRecDepth 100000 in
theorem kcx_64 : lw_tbl[kcw 64]? = some (.code (ky 64) (kby 64) (kmax 64) (kret 64)) := by rfl
set_option maxRecDepth 100000 in
theorem kcx_65 : lw_tbl[kcw 65]? = some (.code (ky 65) (kby 65) (kmax 65) (kret 65)) := by rfl
set_option maxRecDepth 100000 in
theorem kcx_66 : lw_tbl[kcw 66]? = some (.code (ky 66) (kby 66) (kmax 66) (kret 66)) := by rfl
set_option maxRecDepth 100000 in
theorem kcx_67 : lw_tbl[kcw 67]? = some (.code (ky 67) (kby 67) (kmax 67) (kret 67)) := by rfl
set_option maxRecDepth 100000 in
theorem kcx_68 : lw_tbl[kcw 68]? = some (.code (ky 68) (kby 68) (kmax 68) (kret 68)) := by rfl
set_option maxRecDepth 100000 in
theorem kcx_69 : lw_tbl[kcw 69]? = some (.code (ky 69) (kby 69) (kmax 69) (kret 69)) := by rfl
set_option maxRecDepth 100000 in
theorem kcx_70 : lw_tbl[kcw 70]? = some (.code (ky 70) (kby 70) (kmax 70) (kret 70)) := by rfl
set_option maxRecDepth 100000 in
theorem kcx_71 : lw_tbl[kcw 71]? = some (.code (ky 71) (kby 71) (kmax 71) (kret 71)) := by rfl
set_option maxRecDepth 100000 in
theorem kcx_72 : lw_tbl[kcw 72]? = some (.code (ky 72) (kby 72) (kmax 72) (kret 72)) := by rfl
set_option maxRecDepth 100000 in
theorem kcx_73 : lw_tbl[kcw 73]? = some (.code (ky 73) (kby 73) (kmax 73) (kret 73)) := by rfl
set_option maxRecDepth 100000 in
theorem kcx_74 : lw_tbl[kcw 74]? = some (.code (ky 74) (kby 74) (kmax 74) (kret 74)) := by rfl
set_option maxRecDepth 100000 in
theorem kcx_75 : lw_tbl[kcw 75]? = some (.code (ky 75) (kby 75) (kmax 75) (kret 75)) := by rfl
set_option maxRecDepth 100000 in
theorem kcx_76 : lw_tbl[kcw 76]? = some (.code (ky 76) (kby 76) (kmax 76) (kret 76)) := by rfl
set_option maxRecDepth 100000 in
theorem kcx_77 : lw_tbl[kcw 77]? = some (.code (ky 77) (kby 77) (kmax 77) (kret 77)) := by rfl
set_option maxRecDepth 100000 in
theorem kcx_78 : lw_tbl[kcw 78]? = some (.code (ky 78) (kby 78) (kmax 78) (kret 78)) := by rfl
set_option maxRecDepth 100000 in
theorem kcx_79 : lw_tbl[kcw 79]? = some (.code (ky 79) (kby 79) (kmax 79) (kret 79)) := by rfl
set_option maxRecDepth 100000 in
theorem kcx_80 : lw_tbl[kcw 80]? = some (.code (ky 80) (kby 80) (kmax 80) (kret 80)) := by rfl
set_option maxRecDepth 100000 in
theorem kcx_81 : lw_tbl[kcw 81]? = some (.code (ky 81) (kby 81) (kmax 81) (kret 81)) := by rfl
set_option maxRecDepth 100000 in
theorem kcx_82 : lw_tbl[kcw 82]? = some (.code (ky 82) (kby 82) (kmax 82) (kret 82)) := by rfl
set_option maxRecDepth 100000 in
theorem kcx_83 : lw_tbl[kcw 83]? = some (.code (ky 83) (kby 83) (kmax 83) (kret 83)) := by rfl
set_option maxRecDepth 100000 in
theorem kcx_84 : lw_tbl[kcw 84]? = some (.code (ky 84) (kby 84) (kmax 84) (kret 84)) := by rfl
set_option maxRecDepth 100000 in
theorem kcx_85 : lw_tbl[kcw 85]? = some (.code (ky 85) (kby 85) (kmax 85) (kret 85)) := by rfl
set_option maxRecDepth 100000 in
theorem kcx_86 : lw_tbl[kcw 86]? = some (.code (ky 86) (kby 86) (kmax 86) (kret 86)) := by rfl
set_option maxRecDepth 100000 in
theorem kcx_87 : lw_tbl[kcw 87]? = some (.code (ky 87) (kby 87) (kmax 87) (kret 87)) := by rfl
set_option maxRecDepth 100000 in
theorem kcx_88 : lw_tbl[kcw 88]? = some (.code (ky 88) (kby 88) (kmax 88) (kret 88)) := by rfl
set_option maxRecDepth 100000 in
theorem kcx_89 : lw_tbl[kcw 89]? = some (.code (ky 89) (kby 89) (kmax 89) (kret 89)) := by rfl
set_option maxRecDepth 100000 in
theorem kcx_90 : lw_tbl[kcw 90]? = some (.code (ky 90) (kby 90) (kmax 90) (kret 90)) := by rfl
set_option maxRecDepth 100000 in
theorem kcx_91 : lw_tbl[kcw 91]? = some (.code (ky 91) (kby 91) (kmax 91) (kret 91)) := by rfl
set_option maxRecDepth 100000 in
theorem kcx_92 : lw_tbl[kcw 92]? = some (.code (ky 92) (kby 92) (kmax 92) (kret 92)) := by rfl
set_option maxRecDepth 100000 in
theorem kcx_93 : lw_tbl[kcw 93]? = some (.code (ky 93) (kby 93) (kmax 93) (kret 93)) := by rfl
set_option maxRecDepth 100000 in
theorem kcx_94 : lw_tbl[kcw 94]? = some (.code (ky 94) (kby 94) (kmax 94) (kret 94)) := by rfl
set_option maxRecDepth 100000 in
theorem kcx_95 : lw_tbl[kcw 95]? = some (.code (ky 95) (kby 95) (kmax 95) (kret 95)) := by rfl
set_option maxRecDepth 100000 in
theorem kcx_96 : lw_tbl[kcw 96]? = some (.code (ky 96) (kby 96) (kmax 96) (kret 96)) := by rfl
set_option maxRecDepth 100000 in
theorem kcx_97 : lw_tbl[kcw 97]? = some (.code (ky 97) (kby 97) (kmax 97) (kret 97)) := by rfl
set_option maxRecDepth 100000 in
theorem kcx_98 : lw_tbl[kcw 98]? = some (.code (ky 98) (kby 98) (kmax 98) (kret 98)) := by rfl
set_option maxRecDepth 100000 in
theorem kcx_99 : lw_tbl[kcw 99]? = some (.code (ky 99) (kby 99) (kmax 99) (kret 99)) := by rfl
set_option maxRecDepth 100000 in
theorem kcx_100 : lw_tbl[kcw 100]? = some (.code (ky 100) (kby 100) (kmax 100) (kret 100)) := by rfl
set_option maxRecDepth 100000 in
theorem kcx_101 : lw_tbl[kcw 101]? = some (.code (ky 101) (kby 101) (kmax 101) (kret 101)) := by rfl
set_option maxRecDepth 100000 in
theorem kcx_102 : lw_tbl[kcw 102]? = some (.code (ky 102) (kby 102) (kmax 102) (kret 102)) := by rfl
set_option maxRecDepth 100000 in
theorem kcx_103 : lw_tbl[kcw 103]? = some (.code (ky 103) (kby 103) (kmax 103) (kret 103)) := by rfl
set_option maxRecDepth 100000 in
theorem kcx_104 : lw_tbl[kcw 104]? = some (.code (ky 104) (kby 104) (kmax 104) (kret 104)) := by rfl
set_option maxRecDepth 100000 in
theorem kcx_105 : lw_tbl[kcw 105]? = some (.code (ky 105) (kby 105) (kmax 105) (kret 105)) := by rfl
set_option maxRecDepth 100000 in
theorem kcx_106 : lw_tbl[kcw 106]? = some (.code (ky 106) (kby 106) (kmax 106) (kret 106)) := by rfl
set_option maxRecDepth 100000 in
theorem kcx_107 : lw_tbl[kcw 107]? = some (.code (ky 107) (kby 107) (kmax 107) (kret 107)) := by rfl
set_option maxRecDepth 100000 in
theorem kcx_108 : lw_tbl[kcw 108]? = some (.code (ky 108) (kby 108) (kmax 108) (kret 108)) := by rfl
set_option maxRecDepth 100000 in
theorem kcx_109 : lw_tbl[kcw 109]? = some (.code (ky 109) (kby 109) (kmax 109) (kret 109)) := by rfl
set_option maxRecDepth 100000 in
theorem kcx_110 : lw_tbl[kcw 110]? = some (.code (ky 110) (kby 110) (kmax 110) (kret 110)) := by rfl
set_option maxRecDepth 100000 in
theorem kcx_111 : lw_tbl[kcw 111]? = some (.code (ky 111) (kby 111) (kmax 111) (kret 111)) := by rfl
set_option maxRecDepth 100000 in
theorem kcx_112 : lw_tbl[kcw 112]? = some (.code (ky 112) (kby 112) (kmax 112) (kret 112)) := by rfl
set_option maxRecDepth 100000 in
theorem kcx_113 : lw_tbl[kcw 113]? = some (.code (ky 113) (kby 113) (kmax 113) (kret 113)) := by rfl
set_option maxRecDepth 100000 in
theorem kcx_114 : lw_tbl[kcw 114]? = some (.code (ky 114) (kby 114) (kmax 114) (kret 114)) := by rfl
set_option maxRecDepth 100000 in
theorem kcx_115 : lw_tbl[kcw 115]? = some (.code (ky 115) (kby 115) (kmax 115) (kret 115)) := by rfl
set_option maxRecDepth 100000 in
theorem kcx_116 : lw_tbl[kcw 116]? = some (.code (ky 116) (kby 116) (kmax 116) (kret 116)) := by rfl
set_option maxRecDepth 100000 in
theorem kcx_117 : lw_tbl[kcw 117]? = some (.code (ky 117) (kby 117) (kmax 117) (kret 117)) := by rfl
set_option maxRecDepth 100000 in
theorem kcx_118 : lw_tbl[kcw 118]? = some (.code (ky 118) (kby 118) (kmax 118) (kret 118)) := by rfl
set_option maxRecDepth 100000 in
theorem kcx_119 : lw_tbl[kcw 119]? = some (.code (ky 119) (kby 119) (kmax 119) (kret 119)) := by rfl
set_option maxRecDepth 100000 in
theorem kcx_120 : lw_tbl[kcw 120]? = some (.code (ky 120) (kby 120) (kmax 120) (kret 120)) := by rfl
set_option maxRecDepth 100000 in
theorem kcx_121 : lw_tbl[kcw 121]? = some (.code (ky 121) (kby 121) (kmax 121) (kret 121)) := by rfl
set_option maxRecDepth 100000 in
theorem kcx_122 : lw_tbl[kcw 122]? = some (.code (ky 122) (kby 122) (kmax 122) (kret 122)) := by rfl
set_option maxRecDepth 100000 in
theorem kcx_123 : lw_tbl[kcw 123]? = some (.code (ky 123) (kby 123) (kmax 123) (kret 123)) := by rfl
set_option maxRecDepth 100000 in
theorem kcx_124 : lw_tbl[kcw 124]? = some (.code (ky 124) (kby 124) (kmax 124) (kret 124)) := by rfl
set_option maxRecDepth 100000 in
theorem kcx_125 : lw_tbl[kcw 125]? = some (.code (ky 125) (kby 125) (kmax 125) (kret 125)) := by rfl
set_option maxRecDepth 100000 in
theorem kcx_126 : lw_tbl[kcw 126]? = some (.code (ky 126) (kby 126) (kmax 126) (kret 126)) := by rfl
set_option maxRecDepth 100000 in
theorem kcx_127 : lw_tbl[kcw 127]? = some (.code (ky 127) (kby 127) (kmax 127) (kret 127)) := by rfl
set_option maxRecDepth 100000 in
theorem kcx_128 : lw_tbl[kcw 128]? = some (.code (ky 128) (kby 128) (kmax 128) (kret 128)) := by rfl
set_option maxRecDepth 100000 in
theorem kcx_129 : lw_tbl[kcw 129]? = some (.code (ky 129) (kby 129) (kmax 129) (kret 129)) := by rfl
set_option maxRecDepth 100000 in
theorem kcx_130 : lw_tbl[kcw 130]? = some (.code (ky 130) (kby 130) (kmax 130) (kret 130)) := by rfl
set_option maxRecDepth 100000 in
theorem kcx_131 : lw_tbl[kcw 131]? = some (.code (ky 131) (kby 131) (kmax 131) (kret 131)) := by rfl
set_option maxRecDepth 100000 in
theorem kcx_132 : lw_tbl[kcw 132]? = some (.code (ky 132) (kby 132) (kmax 132) (kret 132)) := by rfl
set_option maxRecDepth 100000 in
theorem kcx_133 : lw_tbl[kcw 133]? = some (.code (ky 133) (kby 133) (kmax 133) (kret 133)) := by rfl
set_option maxRecDepth 100000 in
theorem kcx_134 : lw_tbl[kcw 134]? = some (.code (ky 134) (kby 134) (kmax 134) (kret 134)) := by rfl
set_option maxRecDepth 100000 in
theorem kcx_135 : lw_tbl[kcw 135]? = some (.code (ky 135) (kby 135) (kmax 135) (kret 135)) := by rfl
set_option maxRecDepth 100000 in
theorem kcx_136 : lw_tbl[kcw 136]? = some (.code (ky 136) (kby 136) (kmax 136) (kret 136)) := by rfl
set_option maxRecDepth 100000 in
theorem kcx_137 : lw_tbl[kcw 137]? = some (.code (ky 137) (kby 137) (kmax 137) (kret 137)) := by rfl
set_option maxRecDepth 100000 in
theorem kcx_138 : lw_tbl[kcw 138]? = some (.code (ky 138) (kby 138) (kmax 138) (kret 138)) := by rfl
set_option maxRecDepth 100000 in
theorem kcx_139 : lw_tbl[kcw 139]? = some (.code (ky 139) (kby 139) (kmax 139) (kret 139)) := by rfl
set_option maxRecDepth 100000 in
theorem kcx_140 : lw_tbl[kcw 140]? = some (.code (ky 140) (kby 140) (kmax 140) (kret 140)) := by rfl
set_option maxRecDepth 100000 in
theorem kcx_141 : lw_tbl[kcw 141]? = some (.code (ky 141) (kby 141) (kmax 141) (kret 141)) := by rfl
set_option maxRecDepth 100000 in
theorem kcx_142 : lw_tbl[kcw 142]? = some (.code (ky 142) (kby 142) (kmax 142) (kret 142)) := by rfl
set_option maxRecDepth 100000 in
theorem kcx_143 : lw_tbl[kcw 143]? = some (.code (ky 143) (kby 143) (kmax 143) (kret 143)) := by rfl
set_option maxRecDepth 100000 in
theorem kcx_144 : lw_tbl[kcw 144]? = some (.code (ky 144) (kby 144) (kmax 144) (kret 144)) := by rfl
set_option maxRecDepth 100000 in
theorem kcx_145 : lw_tbl[kcw 145]? = some (.code (ky 145) (kby 145) (kmax 145) (kret 145)) := by rfl
set_option maxRecDepth 100000 in
theorem kcx_146 : lw_tbl[kcw 146]? = some (.code (ky 146) (kby 146) (kmax 146) (kret 146)) := by rfl
set_option maxRecDepth 100000 in
theorem kcx_147 : lw_tbl[kcw 147]? = some (.code (ky 147) (kby 147) (kmax 147) (kret 147)) := by rfl
set_option maxRecDepth 100000 in
theorem kcx_148 : lw_tbl[kcw 148]? = some (.code (ky 148) (kby 148) (kmax 148) (kret 148)) := by rfl
set_option maxRecDepth 100000 in
theorem kcx_149 : lw_tbl[kcw 149]? = some (.code (ky 149) (kby 149) (kmax 149) (kret 149)) := by rfl
set_option maxRecDepth 100000 in
theorem kcx_150 : lw_tbl[kcw 150]? = some (.code (ky 150) (kby 150) (kmax 150) (kret 150)) := by rfl
set_option maxRecDepth 100000 in
theorem kcx_151 : lw_tbl[kcw 151]? = some (.code (ky 151) (kby 151) (kmax 151) (kret 151)) := by rfl
set_option maxRecDepth 100000 in
theorem kcx_152 : lw_tbl[kcw 152]? = some (.code (ky 152) (kby 152) (kmax 152) (kret 152)) := by rfl
set_option maxRecDepth 100000 in
theorem kcx_153 : lw_tbl[kcw 153]? = some (.code (ky 153) (kby 153) (kmax 153) (kret 153)) := by rfl
set_option maxRecDepth 100000 in
theorem kcx_154 : lw_tbl[kcw 154]? = some (.code (ky 154) (kby 154) (kmax 154) (kret 154)) := by rfl
set_option maxRecDepth 100000 in
theorem kcx_155 : lw_tbl[kcw 155]? = some (.code (ky 155) (kby 155) (kmax 155) (kret 155)) := by rfl
set_option maxRecDepth 100000 in
theorem kcx_156 : lw_tbl[kcw 156]? = some (.code (ky 156) (kby 156) (kmax 156) (kret 156)) := by rfl
set_option maxRecDepth 100000 in
theorem kcx_157 : lw_tbl[kcw 157]? = some (.code (ky 157) (kby 157) (kmax 157) (kret 157)) := by rfl
set_option maxRecDepth 100000 in
theorem kcx_158 : lw_tbl[kcw 158]? = some (.code (ky 158) (kby 158) (kmax 158) (kret 158)) := by rfl
set_option maxRecDepth 100000 in
theorem kcx_159 : lw_tbl[kcw 159]? = some (.code (ky 159) (kby 159) (kmax 159) (kret 159)) := by rfl
set_option maxRecDepth 100000 in
theorem kcx_160 : lw_tbl[kcw 160]? = some (.code (ky 160) (kby 160) (kmax 160) (kret 160)) := by rfl
set_option maxRecDepth 100000 in
theorem kcx_161 : lw_tbl[kcw 161]? = some (.code (ky 161) (kby 161) (kmax 161) (kret 161)) := by rfl
set_option maxRecDepth 100000 in
theorem kcx_162 : lw_tbl[kcw 162]? = some (.code (ky 162) (kby 162) (kmax 162) (kret 162)) := by rfl
set_option maxRecDepth 100000 in
theorem kcx_163 : lw_tbl[kcw 163]? = some (.code (ky 163) (kby 163) (kmax 163) (kret 163)) := by rfl
set_option maxRecDepth 100000 in
theorem kcx_164 : lw_tbl[kcw 164]? = some (.code (ky 164) (kby 164) (kmax 164) (kret 164)) := by rfl
set_option maxRecDepth 100000 in
theorem kcx_165 : lw_tbl[kcw 165]? = some (.code (ky 165) (kby 165) (kmax 165) (kret 165)) := by rfl
set_option maxRecDepth 100000 in
theorem kcx_166 : lw_tbl[kcw 166]? = some (.code (ky 166) (kby 166) (kmax 166) (kret 166)) := by rfl
set_option maxRecDepth 100000 in
theorem kcx_167 : lw_tbl[kcw 167]? = some (.code (ky 167) (kby 167) (kmax 167) (kret 167)) := by rfl
set_option maxRecDepth 100000 in
theorem kcx_168 : lw_tbl[kcw 168]? = some (.code (ky 168) (kby 168) (kmax 168) (kret 168)) := by rfl
set_option maxRecDepth 100000 in
theorem kcx_169 : lw_tbl[kcw 169]? = some (.code (ky 169) (kby 169) (kmax 169) (kret 169)) := by rfl
set_option maxRecDepth 100000 in
theorem kcx_170 : lw_tbl[kcw 170]? = some (.code (ky 170) (kby 170) (kmax 170) (kret 170)) := by rfl
set_option maxRecDepth 100000 in
theorem kcx_171 : lw_tbl[kcw 171]? = some (.code (ky 171) (kby 171) (kmax 171) (kret 171)) := by rfl
set_option maxRecDepth 100000 in
theorem kcx_172 : lw_tbl[kcw 172]? = some (.code (ky 172) (kby 172) (kmax 172) (kret 172)) := by rfl
set_option maxRecDepth 100000 in
theorem kcx_173 : lw_tbl[kcw 173]? = some (.code (ky 173) (kby 173) (kmax 173) (kret 173)) := by rfl
set_option maxRecDepth 100000 in
theorem kcx_174 : lw_tbl[kcw 174]? = some (.code (ky 174) (kby 174) (kmax 174) (kret 174)) := by rfl
set_option maxRecDepth 100000 in
theorem kcx_175 : lw_tbl[kcw 175]? = some (.code (ky 175) (kby 175) (kmax 175) (kret 175)) := by rfl
set_option maxRecDepth 100000 in
theorem kcx_176 : lw_tbl[kcw 176]? = some (.code (ky 176) (kby 176) (kmax 176) (kret 176)) := by rfl
set_option maxRecDepth 100000 in
theorem kcx_177 : lw_tbl[kcw 177]? = some (.code (ky 177) (kby 177) (kmax 177) (kret 177)) := by rfl
set_option maxRecDepth 100000 in
theorem kcx_178 : lw_tbl[kcw 178]? = some (.code (ky 178) (kby 178) (kmax 178) (kret 178)) := by rfl
set_option maxRecDepth 100000 in
theorem kcx_179 : lw_tbl[kcw 179]? = some (.code (ky 179) (kby 179) (kmax 179) (kret 179)) := by rfl
set_option maxRecDepth 100000 in
theorem kcx_180 : lw_tbl[kcw 180]? = some (.code (ky 180) (kby 180) (kmax 180) (kret 180)) := by rfl
set_option maxRecDepth 100000 in
theorem kcx_181 : lw_tbl[kcw 181]? = some (.code (ky 181) (kby 181) (kmax 181) (kret 181)) := by rfl
set_option maxRecDepth 100000 in
theorem kcx_182 : lw_tbl[kcw 182]? = some (.code (ky 182) (kby 182) (kmax 182) (kret 182)) := by rfl
set_option maxRecDepth 100000 in
theorem kcx_183 : lw_tbl[kcw 183]? = some (.code (ky 183) (kby 183) (kmax 183) (kret 183)) := by rfl
set_option maxRecDepth 100000 in
theorem kcx_184 : lw_tbl[kcw 184]? = some (.code (ky 184) (kby 184) (kmax 184) (kret 184)) := by rfl
set_option maxRecDepth 100000 in
theorem kcx_185 : lw_tbl[kcw 185]? = some (.code (ky 185) (kby 185) (kmax 185) (kret 185)) := by rfl
set_option maxRecDepth 100000 in
theorem kcx_186 : lw_tbl[kcw 186]? = some (.code (ky 186) (kby 186) (kmax 186) (kret 186)) := by rfl
set_option maxRecDepth 100000 in
theorem kcx_187 : lw_tbl[kcw 187]? = some (.code (ky 187) (kby 187) (kmax 187) (kret 187)) := by rfl
set_option maxRecDepth 100000 in
theorem kcx_188 : lw_tbl[kcw 188]? = some (.code (ky 188) (kby 188) (kmax 188) (kret 188)) := by rfl
set_option maxRecDepth 100000 in
theorem kcx_189 : lw_tbl[kcw 189]? = some (.code (ky 189) (kby 189) (kmax 189) (kret 189)) := by rfl
set_option maxRecDepth 100000 in
theorem kcx_190 : lw_tbl[kcw 190]? = some (.code (ky 190) (kby 190) (kmax 190) (kret 190)) := by rfl
set_option maxRecDepth 100000 in
theorem kcx_191 : lw_tbl[kcw 191]? = some (.code (ky 191) (kby 191) (kmax 191) (kret 191)) := by rfl
set_option maxRecDepth 100000 in
theorem kcx_192 : lw_tbl[kcw 192]? = some (.code (ky 192) (kby 192) (kmax 192) (kret 192)) := by rfl
set_option maxRecDepth 100000 in
theorem kcx_193 : lw_tbl[kcw 193]? = some (.code (ky 193) (kby 193) (kmax 193) (kret 193)) := by rfl
set_option maxRecDepth 100000 in
theorem kcx_194 : lw_tbl[kcw 194]? = some (.code (ky 194) (kby 194) (kmax 194) (kret 194)) := by rfl
set_option maxRecDepth 100000 in
theorem kcx_195 : lw_tbl[kcw 195]? = some (.code (ky 195) (kby 195) (kmax 195) (kret 195)) := by rfl
set_option maxRecDepth 100000 in
theorem kcx_196 : lw_tbl[kcw 196]? = some (.code (ky 196) (kby 196) (kmax 196) (kret 196)) := by rfl
set_option maxRecDepth 100000 in
theorem kcx_197 : lw_tbl[kcw 197]? = some (.code (ky 197) (kby 197) (kmax 197) (kret 197)) := by rfl
set_option maxRecDepth 100000 in
theorem kcx_198 : lw_tbl[kcw 198]? = some (.code (ky 198) (kby 198) (kmax 198) (kret 198)) := by rfl
set_option maxRecDepth 100000 in
theorem kcx_199 : lw_tbl[kcw 199]? = some (.code (ky 199) (kby 199) (kmax 199) (kret 199)) := by rfl
set_option maxRecDepth 100000 in
theorem kcx_200 : lw_tbl[kcw 200]? = some (.code (ky 200) (kby 200) (kmax 200) (kret 200)) := by rfl
set_option maxRecDepth 100000 in
theorem kcx_201 : lw_tbl[kcw 201]? = some (.code (ky 201) (kby 201) (kmax 201) (kret 201)) := by rfl
set_option maxRecDepth 100000 in
theorem kcx_202 : lw_tbl[kcw 202]? = some (.code (ky 202) (kby 202) (kmax 202) (kret 202)) := by rfl
set_option maxRecDepth 100000 in
theorem kcx_203 : lw_tbl[kcw 203]? = some (.code (ky 203) (kby 203) (kmax 203) (kret 203)) := by rfl
set_option maxRecDepth 100000 in
theorem kcx_204 : lw_tbl[kcw 204]? = some (.code (ky 204) (kby 204) (kmax 204) (kret 204)) := by rfl
set_option maxRecDepth 100000 in
theorem kcx_205 : lw_tbl[kcw 205]? = some (.code (ky 205) (kby 205) (kmax 205) (kret 205)) := by rfl
set_option maxRecDepth 100000 in
theorem kcx_206 : lw_tbl[kcw 206]? = some (.code (ky 206) (kby 206) (kmax 206) (kret 206)) := by rfl
set_option maxRecDepth 100000 in
theorem kcx_207 : lw_tbl[kcw 207]? = some (.code (ky 207) (kby 207) (kmax 207) (kret 207)) := by rfl
set_option maxRecDepth 100000 in
theorem kcx_208 : lw_tbl[kcw 208]? = some (.code (ky 208) (kby 208) (kmax 208) (kret 208)) := by rfl
set_option maxRecDepth 100000 in
theorem kcx_209 : lw_tbl[kcw 209]? = some (.code (ky 209) (kby 209) (kmax 209) (kret 209)) := by rfl
set_option maxRecDepth 100000 in
theorem kcx_210 : lw_tbl[kcw 210]? = some (.code (ky 210) (kby 210) (kmax 210) (kret 210)) := by rfl
set_option maxRecDepth 100000 in
theorem kcx_211 : lw_tbl[kcw 211]? = some (.code (ky 211) (kby 211) (kmax 211) (kret 211)) := by rfl
set_option maxRecDepth 100000 in
theorem kcx_212 : lw_tbl[kcw 212]? = some (.code (ky 212) (kby 212) (kmax 212) (kret 212)) := by rfl
set_option maxRecDepth 100000 in
theorem kcx_213 : lw_tbl[kcw 213]? = some (.code (ky 213) (kby 213) (kmax 213) (kret 213)) := by rfl
set_option maxRecDepth 100000 in
theorem kcx_214 : lw_tbl[kcw 214]? = some (.code (ky 214) (kby 214) (kmax 214) (kret 214)) := by rfl
set_option maxRecDepth 100000 in
theorem kcx_215 : lw_tbl[kcw 215]? = some (.code (ky 215) (kby 215) (kmax 215) (kret 215)) := by rfl
set_option maxRecDepth 100000 in
theorem kcx_216 : lw_tbl[kcw 216]? = some (.code (ky 216) (kby 216) (kmax 216) (kret 216)) := by rfl
set_option maxRecDepth 100000 in
theorem kcx_217 : lw_tbl[kcw 217]? = some (.code (ky 217) (kby 217) (kmax 217) (kret 217)) := by rfl
set_option maxRecDepth 100000 in
theorem kcx_218 : lw_tbl[kcw 218]? = some (.code (ky 218) (kby 218) (kmax 218) (kret 218)) := by rfl
set_option maxRecDepth 100000 in
theorem kcx_219 : lw_tbl[kcw 219]? = some (.code (ky 219) (kby 219) (kmax 219) (kret 219)) := by rfl
set_option maxRecDepth 100000 in
theorem kcx_220 : lw_tbl[kcw 220]? = some (.code (ky 220) (kby 220) (kmax 220) (kret 220)) := by rfl
set_option maxRecDepth 100000 in
theorem kcx_221 : lw_tbl[kcw 221]? = some (.code (ky 221) (kby 221) (kmax 221) (kret 221)) := by rfl
set_option maxRecDepth 100000 in
theorem kcx_222 : lw_tbl[kcw 222]? = some (.code (ky 222) (kby 222) (kmax 222) (kret 222)) := by rfl
set_option maxRecDepth 100000 in
theorem kcx_223 : lw_tbl[kcw 223]? = some (.code (ky 223) (kby 223) (kmax 223) (kret 223)) := by rfl
set_option maxRecDepth 100000 in
theorem kcx_224 : lw_tbl[kcw 224]? = some (.code (ky 224) (kby 224) (kmax 224) (kret 224)) := by rfl
set_option maxRecDepth 100000 in
theorem kcx_225 : lw_tbl[kcw 225]? = some (.code (ky 225) (kby 225) (kmax 225) (kret 225)) := by rfl
set_option maxRecDepth 100000 in
theorem kcx_226 : lw_tbl[kcw 226]? = some (.code (ky 226) (kby 226) (kmax 226) (kret 226)) := by rfl
set_option maxRecDepth 100000 in
theorem kcx_227 : lw_tbl[kcw 227]? = some (.code (ky 227) (kby 227) (kmax 227) (kret 227)) := by rfl
set_option maxRecDepth 100000 in
theorem kcx_228 : lw_tbl[kcw 228]? = some (.code (ky 228) (kby 228) (kmax 228) (kret 228)) := by rfl
set_option maxRecDepth 100000 in
theorem kcx_229 : lw_tbl[kcw 229]? = some (.code (ky 229) (kby 229) (kmax 229) (kret 229)) := by rfl
set_option maxRecDepth 100000 in
theorem kcx_230 : lw_tbl[kcw 230]? = some (.code (ky 230) (kby 230) (kmax 230) (kret 230)) := by rfl
set_option maxRecDepth 100000 in
theorem kcx_231 : lw_tbl[kcw 231]? = some (.code (ky 231) (kby 231) (kmax 231) (kret 231)) := by rfl
set_option maxRecDepth 100000 in
theorem kcx_232 : lw_tbl[kcw 232]? = some (.code (ky 232) (kby 232) (kmax 232) (kret 232)) := by rfl
set_option maxRecDepth 100000 in
theorem kcx_233 : lw_tbl[kcw 233]? = some (.code (ky 233) (kby 233) (kmax 233) (kret 233)) := by rfl
set_option maxRecDepth 100000 in
theorem kcx_234 : lw_tbl[kcw 234]? = some (.code (ky 234) (kby 234) (kmax 234) (kret 234)) := by rfl
set_option maxRecDepth 100000 in
theorem kcx_235 : lw_tbl[kcw 235]? = some (.code (ky 235) (kby 235) (kmax 235) (kret 235)) := by rfl
set_option maxRecDepth 100000 in
theorem kcx_236 : lw_tbl[kcw 236]? = some (.code (ky 236) (kby 236) (kmax 236) (kret 236)) := by rfl
set_option maxRecDepth 100000 in
theorem kcx_237 : lw_tbl[kcw 237]? = some (.code (ky 237) (kby 237) (kmax 237) (kret 237)) := by rfl
set_option maxRecDepth 100000 in
theorem kcx_238 : lw_tbl[kcw 238]? = some (.code (ky 238) (kby 238) (kmax 238) (kret 238)) := by rfl
set_option maxRecDepth 100000 in
theorem kcx_239 : lw_tbl[kcw 239]? = some (.code (ky 239) (kby 239) (kmax 239) (kret 239)) := by rfl
set_option maxRecDepth 100000 in
theorem kcx_240 : lw_tbl[kcw 240]? = some (.code (ky 240) (kby 240) (kmax 240) (kret 240)) := by rfl
set_option maxRecDepth 100000 in
theorem kcx_241 : lw_tbl[kcw 241]? = some (.code (ky 241) (kby 241) (kmax 241) (kret 241)) := by rfl
set_option maxRecDepth 100000 in
theorem kcx_242 : lw_tbl[kcw 242]? = some (.code (ky 242) (kby 242) (kmax 242) (kret 242)) := by rfl
set_option maxRecDepth 100000 in
theorem kcx_243 : lw_tbl[kcw 243]? = some (.code (ky 243) (kby 243) (kmax 243) (kret 243)) := by rfl
set_option maxRecDepth 100000 in
theorem kcx_244 : lw_tbl[kcw 244]? = some (.code (ky 244) (kby 244) (kmax 244) (kret 244)) := by rfl
set_option maxRecDepth 100000 in
theorem kcx_245 : lw_tbl[kcw 245]? = some (.code (ky 245) (kby 245) (kmax 245) (kret 245)) := by rfl
set_option maxRecDepth 100000 in
theorem kcx_246 : lw_tbl[kcw 246]? = some (.code (ky 246) (kby 246) (kmax 246) (kret 246)) := by rfl
set_option maxRecDepth 100000 in
theorem kcx_247 : lw_tbl[kcw 247]? = some (.code (ky 247) (kby 247) (kmax 247) (kret 247)) := by rfl
set_option maxRecDepth 100000 in
theorem kcx_248 : lw_tbl[kcw 248]? = some (.code (ky 248) (kby 248) (kmax 248) (kret 248)) := by rfl
set_option maxRecDepth 100000 in
theorem kcx_249 : lw_tbl[kcw 249]? = some (.code (ky 249) (kby 249) (kmax 249) (kret 249)) := by rfl
set_option maxRecDepth 100000 in
theorem kcx_250 : lw_tbl[kcw 250]? = some (.code (ky 250) (kby 250) (kmax 250) (kret 250)) := by rfl
set_option maxRecDepth 100000 in
theorem kcx_251 : lw_tbl[kcw 251]? = some (.code (ky 251) (kby 251) (kmax 251) (kret 251)) := by rfl
set_option maxRecDepth 100000 in
theorem kcx_252 : lw_tbl[kcw 252]? = some (.code (ky 252) (kby 252) (kmax 252) (kret 252)) := by rfl
set_option maxRecDepth 100000 in
theorem kcx_253 : lw_tbl[kcw 253]? = some (.code (ky 253) (kby 253) (kmax 253) (kret 253)) := by rfl
set_option maxRecDepth 100000 in
theorem kcx_254 : lw_tbl[kcw 254]? = some (.code (ky 254) (kby 254) (kmax 254) (kret 254)) := by rfl
set_option maxRecDepth 100000 in
theorem kcx_255 : lw_tbl[kcw 255]? = some (.code (ky 255) (kby 255) (kmax 255) (kret 255)) := by rfl
set_option maxRecDepth 100000 in
theorem kcx_256 : lw_tbl[kcw 256]? = some (.code (ky 256) (kby 256) (kmax 256) (kret 256)) := by rfl
set_option maxRecDepth 100000 in
theorem kcx_257 : lw_tbl[kcw 257]? = some (.code (ky 257) (kby 257) (kmax 257) (kret 257)) := by rfl
set_option maxRecDepth 100000 in
theorem kcx_258 : lw_tbl[kcw 258]? = some (.code (ky 258) (kby 258) (kmax 258) (kret 258)) := by rfl
set_option maxRecDepth 100000 in
theorem kcx_259 : lw_tbl[kcw 259]? = some (.code (ky 259) (kby 259) (kmax 259) (kret 259)) := by rfl
set_option maxRecDepth 100000 in
theorem kcx_260 : lw_tbl[kcw 260]? = some (.code (ky 260) (kby 260) (kmax 260) (kret 260)) := by rfl
set_option maxRecDepth 100000 in
theorem kcx_261 : lw_tbl[kcw 261]? = some (.code (ky 261) (kby 261) (kmax 261) (kret 261)) := by rfl
set_option maxRecDepth 100000 in
theorem kcx_262 : lw_tbl[kcw 262]? = some (.code (ky 262) (kby 262) (kmax 262) (kret 262)) := by rfl
set_option maxRecDepth 100000 in
theorem kcx_263 : lw_tbl[kcw 263]? = some (.code (ky 263) (kby 263) (kmax 263) (kret 263)) := by rfl
set_option maxRecDepth 100000 in
theorem kcx_264 : lw_tbl[kcw 264]? = some (.code (ky 264) (kby 264) (kmax 264) (kret 264)) := by rfl
set_option maxRecDepth 100000 in
theorem kcx_265 : lw_tbl[kcw 265]? = some (.code (ky 265) (kby 265) (kmax 265) (kret 265)) := by rfl
set_option maxRecDepth 100000 in
theorem kcx_266 : lw_tbl[kcw 266]? = some (.code (ky 266) (kby 266) (kmax 266) (kret 266)) := by rfl
set_option maxRecDepth 100000 in
theorem kcx_267 : lw_tbl[kcw 267]? = some (.code (ky 267) (kby 267) (kmax 267) (kret 267)) := by rfl
set_option maxRecDepth 100000 in
theorem kcx_268 : lw_tbl[kcw 268]? = some (.code (ky 268) (kby 268) (kmax 268) (kret 268)) := by rfl
set_option maxRecDepth 100000 in
theorem kcx_269 : lw_tbl[kcw 269]? = some (.code (ky 269) (kby 269) (kmax 269) (kret 269)) := by rfl
set_option maxRecDepth 100000 in
theorem kcx_270 : lw_tbl[kcw 270]? = some (.code (ky 270) (kby 270) (kmax 270) (kret 270)) := by rfl
set_option maxRecDepth 100000 in
theorem kcx_271 : lw_tbl[kcw 271]? = some (.code (ky 271) (kby 271) (kmax 271) (kret 271)) := by rfl
set_option maxRecDepth 100000 in
theorem kcx_272 : lw_tbl[kcw 272]? = some (.code (ky 272) (kby 272) (kmax 272) (kret 272)) := by rfl
set_option maxRecDepth 100000 in
theorem kcx_273 : lw_tbl[kcw 273]? = some (.code (ky 273) (kby 273) (kmax 273) (kret 273)) := by rfl
set_option maxRecDepth 100000 in
theorem kcx_274 : lw_tbl[kcw 274]? = some (.code (ky 274) (kby 274) (kmax 274) (kret 274)) := by rfl
set_option maxRecDepth 100000 in
theorem kcx_275 : lw_tbl[kcw 275]? = some (.code (ky 275) (kby 275) (kmax 275) (kret 275)) := by rfl
set_option maxRecDepth 100000 in
theorem kcx_276 : lw_tbl[kcw 276]? = some (.code (ky 276) (kby 276) (kmax 276) (kret 276)) := by rfl
set_option maxRecDepth 100000 in
theorem kcx_277 : lw_tbl[kcw 277]? = some (.code (ky 277) (kby 277) (kmax 277) (kret 277)) := by rfl
set_option maxRecDepth 100000 in
theorem kcx_278 : lw_tbl[kcw 278]? = some (.code (ky 278) (kby 278) (kmax 278) (kret 278)) := by rfl
set_option maxRecDepth 100000 in
theorem kcx_279 : lw_tbl[kcw 279]? = some (.code (ky 279) (kby 279) (kmax 279) (kret 279)) := by rfl
set_option maxRecDepth 100000 in
theorem kcx_280 : lw_tbl[kcw 280]? = some (.code (ky 280) (kby 280) (kmax 280) (kret 280)) := by rfl
set_option maxRecDepth 100000 in
theorem kcx_281 : lw_tbl[kcw 281]? = some (.code (ky 281) (kby 281) (kmax 281) (kret 281)) := by rfl
set_option maxRecDepth 100000 in
theorem kcx_282 : lw_tbl[kcw 282]? = some (.code (ky 282) (kby 282) (kmax 282) (kret 282)) := by rfl
set_option maxRecDepth 100000 in
theorem kcx_283 : lw_tbl[kcw 283]? = some (.code (ky 283) (kby 283) (kmax 283) (kret 283)) := by rfl
set_option maxRecDepth 100000 in
theorem kcx_284 : lw_tbl[kcw 284]? = some (.code (ky 284) (kby 284) (kmax 284) (kret 284)) := by rfl
set_option maxRecDepth 100000 in
theorem kcx_285 : lw_tbl[kcw 285]? = some (.code (ky 285) (kby 285) (kmax 285) (kret 285)) := by rfl
set_option maxRecDepth 100000 in
theorem kcx_286 : lw_tbl[kcw 286]? = some (.code (ky 286) (kby 286) (kmax 286) (kret 286)) := by rfl
set_option maxRecDepth 100000 in
theorem kcx_287 : lw_tbl[kcw 287]? = some (.code (ky 287) (kby 287) (kmax 287) (kret 287)) := by rfl
