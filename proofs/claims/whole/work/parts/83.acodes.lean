/-! ===== each method's code stands in the tables: by program ===== -/
theorem z_inw {i : Nat} {w : Cond} (h : lw_tbl[i]? = some w) (g : goodWord w = true) : w ∈ z_gw := List.mem_filter.mpr ⟨List.mem_of_getElem? h, g⟩
set_option maxRecDepth 20000 in
theorem zcw_0 : lw_tbl[124]? = some (Cond.code (z_y 0) (zz_cd 0) (z_mxl 0) (z_rt 0)) := by rfl
set_option maxRecDepth 20000 in
theorem zcw_1 : lw_tbl[132]? = some (Cond.code (z_y 1) (zz_cd 1) (z_mxl 1) (z_rt 1)) := by rfl
set_option maxRecDepth 20000 in
theorem zcw_2 : lw_tbl[138]? = some (Cond.code (z_y 2) (zz_cd 2) (z_mxl 2) (z_rt 2)) := by rfl
set_option maxRecDepth 20000 in
theorem zcw_3 : lw_tbl[197]? = some (Cond.code (z_y 3) (zz_cd 3) (z_mxl 3) (z_rt 3)) := by rfl
set_option maxRecDepth 20000 in
theorem zcw_4 : lw_tbl[205]? = some (Cond.code (z_y 4) (zz_cd 4) (z_mxl 4) (z_rt 4)) := by rfl
set_option maxRecDepth 20000 in
theorem zcw_5 : lw_tbl[237]? = some (Cond.code (z_y 5) (zz_cd 5) (z_mxl 5) (z_rt 5)) := by rfl
set_option maxRecDepth 20000 in
theorem zcw_6 : lw_tbl[366]? = some (Cond.code (z_y 6) (zz_cd 6) (z_mxl 6) (z_rt 6)) := by rfl
set_option maxRecDepth 20000 in
theorem zcw_7 : lw_tbl[378]? = some (Cond.code (z_y 7) (zz_cd 7) (z_mxl 7) (z_rt 7)) := by rfl
set_option maxRecDepth 20000 in
theorem zcw_8 : lw_tbl[382]? = some (Cond.code (z_y 8) (zz_cd 8) (z_mxl 8) (z_rt 8)) := by rfl
set_option maxRecDepth 20000 in
theorem zcw_9 : lw_tbl[389]? = some (Cond.code (z_y 9) (zz_cd 9) (z_mxl 9) (z_rt 9)) := by rfl
set_option maxRecDepth 20000 in
theorem zcw_10 : lw_tbl[392]? = some (Cond.code (z_y 10) (zz_cd 10) (z_mxl 10) (z_rt 10)) := by rfl
set_option maxRecDepth 20000 in
theorem zcw_11 : lw_tbl[396]? = some (Cond.code (z_y 11) (zz_cd 11) (z_mxl 11) (z_rt 11)) := by rfl
set_option maxRecDepth 20000 in
theorem zcw_12 : lw_tbl[400]? = some (Cond.code (z_y 12) (zz_cd 12) (z_mxl 12) (z_rt 12)) := by rfl
set_option maxRecDepth 20000 in
theorem zcw_13 : lw_tbl[403]? = some (Cond.code (z_y 13) (zz_cd 13) (z_mxl 13) (z_rt 13)) := by rfl
set_option maxRecDepth 20000 in
theorem zcw_14 : lw_tbl[410]? = some (Cond.code (z_y 14) (zz_cd 14) (z_mxl 14) (z_rt 14)) := by rfl
set_option maxRecDepth 20000 in
theorem zcw_15 : lw_tbl[415]? = some (Cond.code (z_y 15) (zz_cd 15) (z_mxl 15) (z_rt 15)) := by rfl
set_option maxRecDepth 20000 in
theorem zcw_16 : lw_tbl[419]? = some (Cond.code (z_y 16) (zz_cd 16) (z_mxl 16) (z_rt 16)) := by rfl
set_option maxRecDepth 20000 in
theorem zcw_17 : lw_tbl[426]? = some (Cond.code (z_y 17) (zz_cd 17) (z_mxl 17) (z_rt 17)) := by rfl
set_option maxRecDepth 20000 in
theorem zcw_18 : lw_tbl[430]? = some (Cond.code (z_y 18) (zz_cd 18) (z_mxl 18) (z_rt 18)) := by rfl
set_option maxRecDepth 20000 in
theorem zcw_19 : lw_tbl[434]? = some (Cond.code (z_y 19) (zz_cd 19) (z_mxl 19) (z_rt 19)) := by rfl
set_option maxRecDepth 20000 in
theorem zcw_20 : lw_tbl[472]? = some (Cond.code (z_y 20) (zz_cd 20) (z_mxl 20) (z_rt 20)) := by rfl
set_option maxRecDepth 20000 in
theorem zcw_21 : lw_tbl[476]? = some (Cond.code (z_y 21) (zz_cd 21) (z_mxl 21) (z_rt 21)) := by rfl
set_option maxRecDepth 20000 in
theorem zcw_22 : lw_tbl[480]? = some (Cond.code (z_y 22) (zz_cd 22) (z_mxl 22) (z_rt 22)) := by rfl
set_option maxRecDepth 20000 in
theorem zcw_23 : lw_tbl[484]? = some (Cond.code (z_y 23) (zz_cd 23) (z_mxl 23) (z_rt 23)) := by rfl
set_option maxRecDepth 20000 in
theorem zcw_24 : lw_tbl[488]? = some (Cond.code (z_y 24) (zz_cd 24) (z_mxl 24) (z_rt 24)) := by rfl
set_option maxRecDepth 20000 in
theorem zcw_25 : lw_tbl[492]? = some (Cond.code (z_y 25) (zz_cd 25) (z_mxl 25) (z_rt 25)) := by rfl
set_option maxRecDepth 20000 in
theorem zcw_26 : lw_tbl[496]? = some (Cond.code (z_y 26) (zz_cd 26) (z_mxl 26) (z_rt 26)) := by rfl
set_option maxRecDepth 20000 in
theorem zcw_27 : lw_tbl[501]? = some (Cond.code (z_y 27) (zz_cd 27) (z_mxl 27) (z_rt 27)) := by rfl
set_option maxRecDepth 20000 in
theorem zcw_28 : lw_tbl[507]? = some (Cond.code (z_y 28) (zz_cd 28) (z_mxl 28) (z_rt 28)) := by rfl
set_option maxRecDepth 20000 in
theorem zcw_29 : lw_tbl[511]? = some (Cond.code (z_y 29) (zz_cd 29) (z_mxl 29) (z_rt 29)) := by rfl
set_option maxRecDepth 20000 in
theorem zcw_30 : lw_tbl[514]? = some (Cond.code (z_y 30) (zz_cd 30) (z_mxl 30) (z_rt 30)) := by rfl
set_option maxRecDepth 20000 in
theorem zcw_31 : lw_tbl[518]? = some (Cond.code (z_y 31) (zz_cd 31) (z_mxl 31) (z_rt 31)) := by rfl
set_option maxRecDepth 20000 in
theorem zcw_32 : lw_tbl[522]? = some (Cond.code (z_y 32) (zz_cd 32) (z_mxl 32) (z_rt 32)) := by rfl
set_option maxRecDepth 20000 in
theorem zcw_33 : lw_tbl[525]? = some (Cond.code (z_y 33) (zz_cd 33) (z_mxl 33) (z_rt 33)) := by rfl
set_option maxRecDepth 20000 in
theorem zcw_34 : lw_tbl[529]? = some (Cond.code (z_y 34) (zz_cd 34) (z_mxl 34) (z_rt 34)) := by rfl
set_option maxRecDepth 20000 in
theorem zcw_35 : lw_tbl[533]? = some (Cond.code (z_y 35) (zz_cd 35) (z_mxl 35) (z_rt 35)) := by rfl
set_option maxRecDepth 20000 in
theorem zcw_36 : lw_tbl[537]? = some (Cond.code (z_y 36) (zz_cd 36) (z_mxl 36) (z_rt 36)) := by rfl
set_option maxRecDepth 20000 in
theorem zcw_37 : lw_tbl[541]? = some (Cond.code (z_y 37) (zz_cd 37) (z_mxl 37) (z_rt 37)) := by rfl
set_option maxRecDepth 20000 in
theorem zcw_38 : lw_tbl[545]? = some (Cond.code (z_y 38) (zz_cd 38) (z_mxl 38) (z_rt 38)) := by rfl
set_option maxRecDepth 20000 in
theorem zcw_39 : lw_tbl[550]? = some (Cond.code (z_y 39) (zz_cd 39) (z_mxl 39) (z_rt 39)) := by rfl
set_option maxRecDepth 20000 in
theorem zcw_40 : lw_tbl[554]? = some (Cond.code (z_y 40) (zz_cd 40) (z_mxl 40) (z_rt 40)) := by rfl
set_option maxRecDepth 20000 in
theorem zcw_41 : lw_tbl[558]? = some (Cond.code (z_y 41) (zz_cd 41) (z_mxl 41) (z_rt 41)) := by rfl
set_option maxRecDepth 20000 in
theorem zcw_42 : lw_tbl[562]? = some (Cond.code (z_y 42) (zz_cd 42) (z_mxl 42) (z_rt 42)) := by rfl
set_option maxRecDepth 20000 in
theorem zcw_43 : lw_tbl[566]? = some (Cond.code (z_y 43) (zz_cd 43) (z_mxl 43) (z_rt 43)) := by rfl
set_option maxRecDepth 20000 in
theorem zcw_44 : lw_tbl[570]? = some (Cond.code (z_y 44) (zz_cd 44) (z_mxl 44) (z_rt 44)) := by rfl
set_option maxRecDepth 20000 in
theorem zcw_45 : lw_tbl[574]? = some (Cond.code (z_y 45) (zz_cd 45) (z_mxl 45) (z_rt 45)) := by rfl
set_option maxRecDepth 20000 in
theorem zcw_46 : lw_tbl[581]? = some (Cond.code (z_y 46) (zz_cd 46) (z_mxl 46) (z_rt 46)) := by rfl
set_option maxRecDepth 20000 in
theorem zcw_47 : lw_tbl[585]? = some (Cond.code (z_y 47) (zz_cd 47) (z_mxl 47) (z_rt 47)) := by rfl
set_option maxRecDepth 20000 in
theorem zcw_48 : lw_tbl[590]? = some (Cond.code (z_y 48) (zz_cd 48) (z_mxl 48) (z_rt 48)) := by rfl
set_option maxRecDepth 20000 in
theorem zcw_49 : lw_tbl[594]? = some (Cond.code (z_y 49) (zz_cd 49) (z_mxl 49) (z_rt 49)) := by rfl
set_option maxRecDepth 20000 in
theorem zcw_50 : lw_tbl[598]? = some (Cond.code (z_y 50) (zz_cd 50) (z_mxl 50) (z_rt 50)) := by rfl
set_option maxRecDepth 20000 in
theorem zcw_51 : lw_tbl[603]? = some (Cond.code (z_y 51) (zz_cd 51) (z_mxl 51) (z_rt 51)) := by rfl
set_option maxRecDepth 20000 in
theorem zcw_52 : lw_tbl[606]? = some (Cond.code (z_y 52) (zz_cd 52) (z_mxl 52) (z_rt 52)) := by rfl
set_option maxRecDepth 20000 in
theorem zcw_53 : lw_tbl[609]? = some (Cond.code (z_y 53) (zz_cd 53) (z_mxl 53) (z_rt 53)) := by rfl
set_option maxRecDepth 20000 in
theorem zcw_54 : lw_tbl[612]? = some (Cond.code (z_y 54) (zz_cd 54) (z_mxl 54) (z_rt 54)) := by rfl
set_option maxRecDepth 20000 in
theorem zcw_55 : lw_tbl[615]? = some (Cond.code (z_y 55) (zz_cd 55) (z_mxl 55) (z_rt 55)) := by rfl
set_option maxRecDepth 20000 in
theorem zcw_56 : lw_tbl[619]? = some (Cond.code (z_y 56) (zz_cd 56) (z_mxl 56) (z_rt 56)) := by rfl
set_option maxRecDepth 20000 in
theorem zcw_57 : lw_tbl[624]? = some (Cond.code (z_y 57) (zz_cd 57) (z_mxl 57) (z_rt 57)) := by rfl
set_option maxRecDepth 20000 in
theorem zcw_58 : lw_tbl[627]? = some (Cond.codeWith (z_y 58) (zz_cd 58) (z_mxl 58) (z_rt 58) (z_hh 58)) := by rfl
set_option maxRecDepth 20000 in
theorem zcw_59 : lw_tbl[632]? = some (Cond.code (z_y 59) (zz_cd 59) (z_mxl 59) (z_rt 59)) := by rfl
set_option maxRecDepth 20000 in
theorem zcw_60 : lw_tbl[636]? = some (Cond.code (z_y 60) (zz_cd 60) (z_mxl 60) (z_rt 60)) := by rfl
set_option maxRecDepth 20000 in
theorem zcw_61 : lw_tbl[708]? = some (Cond.code (z_y 61) (zz_cd 61) (z_mxl 61) (z_rt 61)) := by rfl
set_option maxRecDepth 20000 in
theorem zcw_62 : lw_tbl[715]? = some (Cond.code (z_y 62) (zz_cd 62) (z_mxl 62) (z_rt 62)) := by rfl
set_option maxRecDepth 20000 in
theorem zcw_63 : lw_tbl[719]? = some (Cond.code (z_y 63) (zz_cd 63) (z_mxl 63) (z_rt 63)) := by rfl
set_option maxRecDepth 20000 in
theorem zcw_64 : lw_tbl[723]? = some (Cond.code (z_y 64) (zz_cd 64) (z_mxl 64) (z_rt 64)) := by rfl
set_option maxRecDepth 20000 in
theorem zcw_65 : lw_tbl[728]? = some (Cond.code (z_y 65) (zz_cd 65) (z_mxl 65) (z_rt 65)) := by rfl
set_option maxRecDepth 20000 in
theorem zcw_66 : lw_tbl[780]? = some (Cond.code (z_y 66) (zz_cd 66) (z_mxl 66) (z_rt 66)) := by rfl
set_option maxRecDepth 20000 in
theorem zcw_67 : lw_tbl[784]? = some (Cond.code (z_y 67) (zz_cd 67) (z_mxl 67) (z_rt 67)) := by rfl
set_option maxRecDepth 20000 in
theorem zcw_68 : lw_tbl[788]? = some (Cond.code (z_y 68) (zz_cd 68) (z_mxl 68) (z_rt 68)) := by rfl
set_option maxRecDepth 20000 in
theorem zcw_69 : lw_tbl[793]? = some (Cond.code (z_y 69) (zz_cd 69) (z_mxl 69) (z_rt 69)) := by rfl
set_option maxRecDepth 20000 in
theorem zcw_70 : lw_tbl[797]? = some (Cond.code (z_y 70) (zz_cd 70) (z_mxl 70) (z_rt 70)) := by rfl
set_option maxRecDepth 20000 in
theorem zcw_71 : lw_tbl[801]? = some (Cond.code (z_y 71) (zz_cd 71) (z_mxl 71) (z_rt 71)) := by rfl
set_option maxRecDepth 20000 in
theorem zcw_72 : lw_tbl[811]? = some (Cond.code (z_y 72) (zz_cd 72) (z_mxl 72) (z_rt 72)) := by rfl
set_option maxRecDepth 20000 in
theorem zcw_73 : lw_tbl[815]? = some (Cond.code (z_y 73) (zz_cd 73) (z_mxl 73) (z_rt 73)) := by rfl
set_option maxRecDepth 20000 in
theorem zcw_74 : lw_tbl[822]? = some (Cond.codeWith (z_y 74) (zz_cd 74) (z_mxl 74) (z_rt 74) (z_hh 74)) := by rfl
set_option maxRecDepth 20000 in
theorem zcw_75 : lw_tbl[826]? = some (Cond.code (z_y 75) (zz_cd 75) (z_mxl 75) (z_rt 75)) := by rfl
set_option maxRecDepth 20000 in
theorem zcw_76 : lw_tbl[830]? = some (Cond.code (z_y 76) (zz_cd 76) (z_mxl 76) (z_rt 76)) := by rfl
set_option maxRecDepth 20000 in
theorem zcw_77 : lw_tbl[835]? = some (Cond.code (z_y 77) (zz_cd 77) (z_mxl 77) (z_rt 77)) := by rfl
set_option maxRecDepth 20000 in
theorem zcw_78 : lw_tbl[839]? = some (Cond.code (z_y 78) (zz_cd 78) (z_mxl 78) (z_rt 78)) := by rfl
set_option maxRecDepth 20000 in
theorem zcw_79 : lw_tbl[843]? = some (Cond.code (z_y 79) (zz_cd 79) (z_mxl 79) (z_rt 79)) := by rfl
set_option maxRecDepth 20000 in
theorem zcw_80 : lw_tbl[846]? = some (Cond.codeWith (z_y 80) (zz_cd 80) (z_mxl 80) (z_rt 80) (z_hh 80)) := by rfl
set_option maxRecDepth 20000 in
theorem zcw_81 : lw_tbl[850]? = some (Cond.code (z_y 81) (zz_cd 81) (z_mxl 81) (z_rt 81)) := by rfl
set_option maxRecDepth 20000 in
theorem zcw_82 : lw_tbl[854]? = some (Cond.code (z_y 82) (zz_cd 82) (z_mxl 82) (z_rt 82)) := by rfl
set_option maxRecDepth 20000 in
theorem zcw_83 : lw_tbl[858]? = some (Cond.code (z_y 83) (zz_cd 83) (z_mxl 83) (z_rt 83)) := by rfl
set_option maxRecDepth 20000 in
theorem zcw_84 : lw_tbl[861]? = some (Cond.codeWith (z_y 84) (zz_cd 84) (z_mxl 84) (z_rt 84) (z_hh 84)) := by rfl
set_option maxRecDepth 20000 in
theorem zcw_85 : lw_tbl[867]? = some (Cond.code (z_y 85) (zz_cd 85) (z_mxl 85) (z_rt 85)) := by rfl
set_option maxRecDepth 20000 in
theorem zcw_86 : lw_tbl[871]? = some (Cond.code (z_y 86) (zz_cd 86) (z_mxl 86) (z_rt 86)) := by rfl
set_option maxRecDepth 20000 in
theorem zcw_87 : lw_tbl[875]? = some (Cond.code (z_y 87) (zz_cd 87) (z_mxl 87) (z_rt 87)) := by rfl
set_option maxRecDepth 20000 in
theorem zcw_88 : lw_tbl[895]? = some (Cond.code (z_y 88) (zz_cd 88) (z_mxl 88) (z_rt 88)) := by rfl
set_option maxRecDepth 20000 in
theorem zcw_89 : lw_tbl[915]? = some (Cond.code (z_y 89) (zz_cd 89) (z_mxl 89) (z_rt 89)) := by rfl
set_option maxRecDepth 20000 in
theorem zcw_90 : lw_tbl[919]? = some (Cond.code (z_y 90) (zz_cd 90) (z_mxl 90) (z_rt 90)) := by rfl
set_option maxRecDepth 20000 in
theorem zcw_91 : lw_tbl[922]? = some (Cond.codeWith (z_y 91) (zz_cd 91) (z_mxl 91) (z_rt 91) (z_hh 91)) := by rfl
set_option maxRecDepth 20000 in
theorem zcw_92 : lw_tbl[926]? = some (Cond.code (z_y 92) (zz_cd 92) (z_mxl 92) (z_rt 92)) := by rfl
set_option maxRecDepth 20000 in
theorem zcw_93 : lw_tbl[930]? = some (Cond.codeWith (z_y 93) (zz_cd 93) (z_mxl 93) (z_rt 93) (z_hh 93)) := by rfl
set_option maxRecDepth 20000 in
theorem zcw_94 : lw_tbl[934]? = some (Cond.code (z_y 94) (zz_cd 94) (z_mxl 94) (z_rt 94)) := by rfl
set_option maxRecDepth 20000 in
theorem zcw_95 : lw_tbl[937]? = some (Cond.code (z_y 95) (zz_cd 95) (z_mxl 95) (z_rt 95)) := by rfl
set_option maxRecDepth 20000 in
theorem zcw_96 : lw_tbl[942]? = some (Cond.codeWith (z_y 96) (zz_cd 96) (z_mxl 96) (z_rt 96) (z_hh 96)) := by rfl
set_option maxRecDepth 20000 in
theorem zcw_97 : lw_tbl[946]? = some (Cond.code (z_y 97) (zz_cd 97) (z_mxl 97) (z_rt 97)) := by rfl
set_option maxRecDepth 20000 in
theorem zcw_98 : lw_tbl[949]? = some (Cond.code (z_y 98) (zz_cd 98) (z_mxl 98) (z_rt 98)) := by rfl
set_option maxRecDepth 20000 in
theorem zcw_99 : lw_tbl[952]? = some (Cond.code (z_y 99) (zz_cd 99) (z_mxl 99) (z_rt 99)) := by rfl
set_option maxRecDepth 20000 in
theorem zcw_100 : lw_tbl[955]? = some (Cond.code (z_y 100) (zz_cd 100) (z_mxl 100) (z_rt 100)) := by rfl
set_option maxRecDepth 20000 in
theorem zcw_101 : lw_tbl[958]? = some (Cond.code (z_y 101) (zz_cd 101) (z_mxl 101) (z_rt 101)) := by rfl
set_option maxRecDepth 20000 in
theorem zcw_102 : lw_tbl[961]? = some (Cond.code (z_y 102) (zz_cd 102) (z_mxl 102) (z_rt 102)) := by rfl
set_option maxRecDepth 20000 in
theorem zcw_103 : lw_tbl[964]? = some (Cond.code (z_y 103) (zz_cd 103) (z_mxl 103) (z_rt 103)) := by rfl
set_option maxRecDepth 20000 in
theorem zcw_104 : lw_tbl[967]? = some (Cond.code (z_y 104) (zz_cd 104) (z_mxl 104) (z_rt 104)) := by rfl
set_option maxRecDepth 20000 in
theorem zcw_105 : lw_tbl[972]? = some (Cond.code (z_y 105) (zz_cd 105) (z_mxl 105) (z_rt 105)) := by rfl
set_option maxRecDepth 20000 in
theorem zcw_106 : lw_tbl[976]? = some (Cond.code (z_y 106) (zz_cd 106) (z_mxl 106) (z_rt 106)) := by rfl
set_option maxRecDepth 20000 in
theorem zcw_107 : lw_tbl[979]? = some (Cond.code (z_y 107) (zz_cd 107) (z_mxl 107) (z_rt 107)) := by rfl
set_option maxRecDepth 20000 in
theorem zcw_108 : lw_tbl[984]? = some (Cond.codeWith (z_y 108) (zz_cd 108) (z_mxl 108) (z_rt 108) (z_hh 108)) := by rfl
set_option maxRecDepth 20000 in
theorem zcw_109 : lw_tbl[988]? = some (Cond.code (z_y 109) (zz_cd 109) (z_mxl 109) (z_rt 109)) := by rfl
set_option maxRecDepth 20000 in
theorem zcw_110 : lw_tbl[994]? = some (Cond.codeWith (z_y 110) (zz_cd 110) (z_mxl 110) (z_rt 110) (z_hh 110)) := by rfl
set_option maxRecDepth 20000 in
theorem zcw_111 : lw_tbl[998]? = some (Cond.code (z_y 111) (zz_cd 111) (z_mxl 111) (z_rt 111)) := by rfl
set_option maxRecDepth 20000 in
theorem zcw_112 : lw_tbl[1002]? = some (Cond.code (z_y 112) (zz_cd 112) (z_mxl 112) (z_rt 112)) := by rfl
set_option maxRecDepth 20000 in
theorem zcw_113 : lw_tbl[1005]? = some (Cond.codeWith (z_y 113) (zz_cd 113) (z_mxl 113) (z_rt 113) (z_hh 113)) := by rfl
set_option maxRecDepth 20000 in
theorem zcw_114 : lw_tbl[1009]? = some (Cond.code (z_y 114) (zz_cd 114) (z_mxl 114) (z_rt 114)) := by rfl
set_option maxRecDepth 20000 in
theorem zcw_115 : lw_tbl[1014]? = some (Cond.code (z_y 115) (zz_cd 115) (z_mxl 115) (z_rt 115)) := by rfl
set_option maxRecDepth 20000 in
theorem zcw_116 : lw_tbl[1019]? = some (Cond.codeWith (z_y 116) (zz_cd 116) (z_mxl 116) (z_rt 116) (z_hh 116)) := by rfl
set_option maxRecDepth 20000 in
theorem zcw_117 : lw_tbl[1023]? = some (Cond.code (z_y 117) (zz_cd 117) (z_mxl 117) (z_rt 117)) := by rfl
set_option maxRecDepth 20000 in
theorem zcw_118 : lw_tbl[1026]? = some (Cond.codeWith (z_y 118) (zz_cd 118) (z_mxl 118) (z_rt 118) (z_hh 118)) := by rfl
set_option maxRecDepth 20000 in
theorem zcw_119 : lw_tbl[1030]? = some (Cond.code (z_y 119) (zz_cd 119) (z_mxl 119) (z_rt 119)) := by rfl
set_option maxRecDepth 20000 in
theorem zcw_120 : lw_tbl[1034]? = some (Cond.codeWith (z_y 120) (zz_cd 120) (z_mxl 120) (z_rt 120) (z_hh 120)) := by rfl
set_option maxRecDepth 20000 in
theorem zcw_121 : lw_tbl[1038]? = some (Cond.code (z_y 121) (zz_cd 121) (z_mxl 121) (z_rt 121)) := by rfl
set_option maxRecDepth 20000 in
theorem zcw_122 : lw_tbl[1041]? = some (Cond.codeWith (z_y 122) (zz_cd 122) (z_mxl 122) (z_rt 122) (z_hh 122)) := by rfl
set_option maxRecDepth 20000 in
theorem zcw_123 : lw_tbl[1045]? = some (Cond.code (z_y 123) (zz_cd 123) (z_mxl 123) (z_rt 123)) := by rfl
set_option maxRecDepth 20000 in
theorem zcw_124 : lw_tbl[1048]? = some (Cond.codeWith (z_y 124) (zz_cd 124) (z_mxl 124) (z_rt 124) (z_hh 124)) := by rfl
set_option maxRecDepth 20000 in
theorem zcw_125 : lw_tbl[1052]? = some (Cond.code (z_y 125) (zz_cd 125) (z_mxl 125) (z_rt 125)) := by rfl
set_option maxRecDepth 20000 in
theorem zcw_126 : lw_tbl[1056]? = some (Cond.code (z_y 126) (zz_cd 126) (z_mxl 126) (z_rt 126)) := by rfl
set_option maxRecDepth 20000 in
theorem zcw_127 : lw_tbl[1060]? = some (Cond.codeWith (z_y 127) (zz_cd 127) (z_mxl 127) (z_rt 127) (z_hh 127)) := by rfl
set_option maxRecDepth 20000 in
theorem zcw_128 : lw_tbl[1064]? = some (Cond.code (z_y 128) (zz_cd 128) (z_mxl 128) (z_rt 128)) := by rfl
set_option maxRecDepth 20000 in
theorem zcw_129 : lw_tbl[1067]? = some (Cond.code (z_y 129) (zz_cd 129) (z_mxl 129) (z_rt 129)) := by rfl
set_option maxRecDepth 20000 in
theorem zcw_130 : lw_tbl[1070]? = some (Cond.codeWith (z_y 130) (zz_cd 130) (z_mxl 130) (z_rt 130) (z_hh 130)) := by rfl
set_option maxRecDepth 20000 in
theorem zcw_131 : lw_tbl[1074]? = some (Cond.code (z_y 131) (zz_cd 131) (z_mxl 131) (z_rt 131)) := by rfl
set_option maxRecDepth 20000 in
theorem zcw_132 : lw_tbl[1078]? = some (Cond.code (z_y 132) (zz_cd 132) (z_mxl 132) (z_rt 132)) := by rfl
set_option maxRecDepth 20000 in
theorem zcw_133 : lw_tbl[1082]? = some (Cond.codeWith (z_y 133) (zz_cd 133) (z_mxl 133) (z_rt 133) (z_hh 133)) := by rfl
set_option maxRecDepth 20000 in
theorem zcw_134 : lw_tbl[1086]? = some (Cond.code (z_y 134) (zz_cd 134) (z_mxl 134) (z_rt 134)) := by rfl
set_option maxRecDepth 20000 in
theorem zcw_135 : lw_tbl[1089]? = some (Cond.code (z_y 135) (zz_cd 135) (z_mxl 135) (z_rt 135)) := by rfl
set_option maxRecDepth 20000 in
theorem zcw_136 : lw_tbl[1092]? = some (Cond.codeWith (z_y 136) (zz_cd 136) (z_mxl 136) (z_rt 136) (z_hh 136)) := by rfl
set_option maxRecDepth 20000 in
theorem zcw_137 : lw_tbl[1096]? = some (Cond.code (z_y 137) (zz_cd 137) (z_mxl 137) (z_rt 137)) := by rfl
set_option maxRecDepth 20000 in
theorem zcw_138 : lw_tbl[1099]? = some (Cond.codeWith (z_y 138) (zz_cd 138) (z_mxl 138) (z_rt 138) (z_hh 138)) := by rfl
set_option maxRecDepth 20000 in
theorem zcw_139 : lw_tbl[1103]? = some (Cond.code (z_y 139) (zz_cd 139) (z_mxl 139) (z_rt 139)) := by rfl
set_option maxRecDepth 20000 in
theorem zcw_140 : lw_tbl[1106]? = some (Cond.codeWith (z_y 140) (zz_cd 140) (z_mxl 140) (z_rt 140) (z_hh 140)) := by rfl
set_option maxRecDepth 20000 in
theorem zcw_141 : lw_tbl[1110]? = some (Cond.code (z_y 141) (zz_cd 141) (z_mxl 141) (z_rt 141)) := by rfl
set_option maxRecDepth 20000 in
theorem zcw_142 : lw_tbl[1113]? = some (Cond.code (z_y 142) (zz_cd 142) (z_mxl 142) (z_rt 142)) := by rfl
set_option maxRecDepth 20000 in
theorem zcw_143 : lw_tbl[1116]? = some (Cond.codeWith (z_y 143) (zz_cd 143) (z_mxl 143) (z_rt 143) (z_hh 143)) := by rfl
set_option maxRecDepth 20000 in
theorem zcw_144 : lw_tbl[1120]? = some (Cond.code (z_y 144) (zz_cd 144) (z_mxl 144) (z_rt 144)) := by rfl
set_option maxRecDepth 20000 in
theorem zcw_145 : lw_tbl[1123]? = some (Cond.code (z_y 145) (zz_cd 145) (z_mxl 145) (z_rt 145)) := by rfl
set_option maxRecDepth 20000 in
theorem zcw_146 : lw_tbl[1127]? = some (Cond.code (z_y 146) (zz_cd 146) (z_mxl 146) (z_rt 146)) := by rfl
set_option maxRecDepth 20000 in
theorem zcw_147 : lw_tbl[1134]? = some (Cond.code (z_y 147) (zz_cd 147) (z_mxl 147) (z_rt 147)) := by rfl
set_option maxRecDepth 20000 in
theorem zcw_148 : lw_tbl[1141]? = some (Cond.code (z_y 148) (zz_cd 148) (z_mxl 148) (z_rt 148)) := by rfl
set_option maxRecDepth 20000 in
theorem zcw_149 : lw_tbl[1145]? = some (Cond.code (z_y 149) (zz_cd 149) (z_mxl 149) (z_rt 149)) := by rfl
set_option maxRecDepth 20000 in
theorem zcw_150 : lw_tbl[1148]? = some (Cond.code (z_y 150) (zz_cd 150) (z_mxl 150) (z_rt 150)) := by rfl
set_option maxRecDepth 20000 in
theorem zcw_151 : lw_tbl[1152]? = some (Cond.code (z_y 151) (zz_cd 151) (z_mxl 151) (z_rt 151)) := by rfl
set_option maxRecDepth 20000 in
theorem zcw_152 : lw_tbl[1156]? = some (Cond.code (z_y 152) (zz_cd 152) (z_mxl 152) (z_rt 152)) := by rfl
set_option maxRecDepth 20000 in
theorem zcw_153 : lw_tbl[1159]? = some (Cond.code (z_y 153) (zz_cd 153) (z_mxl 153) (z_rt 153)) := by rfl
set_option maxRecDepth 20000 in
theorem zcw_154 : lw_tbl[1163]? = some (Cond.code (z_y 154) (zz_cd 154) (z_mxl 154) (z_rt 154)) := by rfl
set_option maxRecDepth 20000 in
theorem zcw_155 : lw_tbl[1167]? = some (Cond.code (z_y 155) (zz_cd 155) (z_mxl 155) (z_rt 155)) := by rfl
set_option maxRecDepth 20000 in
theorem zcw_156 : lw_tbl[1171]? = some (Cond.code (z_y 156) (zz_cd 156) (z_mxl 156) (z_rt 156)) := by rfl
set_option maxRecDepth 20000 in
theorem zcw_157 : lw_tbl[1236]? = some (Cond.code (z_y 157) (zz_cd 157) (z_mxl 157) (z_rt 157)) := by rfl
set_option maxRecDepth 20000 in
theorem zcw_158 : lw_tbl[1240]? = some (Cond.code (z_y 158) (zz_cd 158) (z_mxl 158) (z_rt 158)) := by rfl
set_option maxRecDepth 20000 in
theorem zcw_159 : lw_tbl[1244]? = some (Cond.code (z_y 159) (zz_cd 159) (z_mxl 159) (z_rt 159)) := by rfl
set_option maxRecDepth 20000 in
theorem zcw_160 : lw_tbl[1247]? = some (Cond.code (z_y 160) (zz_cd 160) (z_mxl 160) (z_rt 160)) := by rfl
set_option maxRecDepth 20000 in
theorem zcw_161 : lw_tbl[1251]? = some (Cond.code (z_y 161) (zz_cd 161) (z_mxl 161) (z_rt 161)) := by rfl
set_option maxRecDepth 20000 in
theorem zcw_162 : lw_tbl[1255]? = some (Cond.code (z_y 162) (zz_cd 162) (z_mxl 162) (z_rt 162)) := by rfl
set_option maxRecDepth 20000 in
theorem zcw_163 : lw_tbl[1259]? = some (Cond.code (z_y 163) (zz_cd 163) (z_mxl 163) (z_rt 163)) := by rfl
set_option maxRecDepth 20000 in
theorem zcw_164 : lw_tbl[1264]? = some (Cond.code (z_y 164) (zz_cd 164) (z_mxl 164) (z_rt 164)) := by rfl
set_option maxRecDepth 20000 in
theorem zcw_165 : lw_tbl[1268]? = some (Cond.code (z_y 165) (zz_cd 165) (z_mxl 165) (z_rt 165)) := by rfl
set_option maxRecDepth 20000 in
theorem zcw_166 : lw_tbl[1273]? = some (Cond.code (z_y 166) (zz_cd 166) (z_mxl 166) (z_rt 166)) := by rfl
set_option maxRecDepth 20000 in
theorem zcw_167 : lw_tbl[1277]? = some (Cond.code (z_y 167) (zz_cd 167) (z_mxl 167) (z_rt 167)) := by rfl
set_option maxRecDepth 20000 in
theorem zcw_168 : lw_tbl[1281]? = some (Cond.code (z_y 168) (zz_cd 168) (z_mxl 168) (z_rt 168)) := by rfl
set_option maxRecDepth 20000 in
theorem zcw_169 : lw_tbl[1284]? = some (Cond.code (z_y 169) (zz_cd 169) (z_mxl 169) (z_rt 169)) := by rfl
set_option maxRecDepth 20000 in
theorem zcw_170 : lw_tbl[1288]? = some (Cond.code (z_y 170) (zz_cd 170) (z_mxl 170) (z_rt 170)) := by rfl
set_option maxRecDepth 20000 in
theorem zcw_171 : lw_tbl[1292]? = some (Cond.code (z_y 171) (zz_cd 171) (z_mxl 171) (z_rt 171)) := by rfl
set_option maxRecDepth 20000 in
theorem zcw_172 : lw_tbl[1296]? = some (Cond.code (z_y 172) (zz_cd 172) (z_mxl 172) (z_rt 172)) := by rfl
set_option maxRecDepth 20000 in
theorem zcw_173 : lw_tbl[1305]? = some (Cond.code (z_y 173) (zz_cd 173) (z_mxl 173) (z_rt 173)) := by rfl
set_option maxRecDepth 20000 in
theorem zcw_174 : lw_tbl[1309]? = some (Cond.code (z_y 174) (zz_cd 174) (z_mxl 174) (z_rt 174)) := by rfl
set_option maxRecDepth 20000 in
theorem zcw_175 : lw_tbl[1317]? = some (Cond.code (z_y 175) (zz_cd 175) (z_mxl 175) (z_rt 175)) := by rfl
set_option maxRecDepth 20000 in
theorem zcw_176 : lw_tbl[1321]? = some (Cond.code (z_y 176) (zz_cd 176) (z_mxl 176) (z_rt 176)) := by rfl
set_option maxRecDepth 20000 in
theorem zcw_177 : lw_tbl[1325]? = some (Cond.code (z_y 177) (zz_cd 177) (z_mxl 177) (z_rt 177)) := by rfl
set_option maxRecDepth 20000 in
theorem zcw_178 : lw_tbl[1329]? = some (Cond.code (z_y 178) (zz_cd 178) (z_mxl 178) (z_rt 178)) := by rfl
set_option maxRecDepth 20000 in
theorem zcw_179 : lw_tbl[1333]? = some (Cond.code (z_y 179) (zz_cd 179) (z_mxl 179) (z_rt 179)) := by rfl
set_option maxRecDepth 20000 in
theorem zcw_180 : lw_tbl[1337]? = some (Cond.code (z_y 180) (zz_cd 180) (z_mxl 180) (z_rt 180)) := by rfl
set_option maxRecDepth 20000 in
theorem zcw_181 : lw_tbl[1341]? = some (Cond.code (z_y 181) (zz_cd 181) (z_mxl 181) (z_rt 181)) := by rfl
set_option maxRecDepth 20000 in
theorem zcw_182 : lw_tbl[1345]? = some (Cond.code (z_y 182) (zz_cd 182) (z_mxl 182) (z_rt 182)) := by rfl
set_option maxRecDepth 20000 in
theorem zcw_183 : lw_tbl[1349]? = some (Cond.code (z_y 183) (zz_cd 183) (z_mxl 183) (z_rt 183)) := by rfl
set_option maxRecDepth 20000 in
theorem zcw_184 : lw_tbl[1353]? = some (Cond.code (z_y 184) (zz_cd 184) (z_mxl 184) (z_rt 184)) := by rfl
set_option maxRecDepth 20000 in
theorem zcw_185 : lw_tbl[1357]? = some (Cond.code (z_y 185) (zz_cd 185) (z_mxl 185) (z_rt 185)) := by rfl
set_option maxRecDepth 20000 in
theorem zcw_186 : lw_tbl[1361]? = some (Cond.code (z_y 186) (zz_cd 186) (z_mxl 186) (z_rt 186)) := by rfl
set_option maxRecDepth 20000 in
theorem zcw_187 : lw_tbl[1365]? = some (Cond.code (z_y 187) (zz_cd 187) (z_mxl 187) (z_rt 187)) := by rfl
set_option maxRecDepth 20000 in
theorem zcw_188 : lw_tbl[1369]? = some (Cond.code (z_y 188) (zz_cd 188) (z_mxl 188) (z_rt 188)) := by rfl
set_option maxRecDepth 20000 in
theorem zcw_189 : lw_tbl[1373]? = some (Cond.code (z_y 189) (zz_cd 189) (z_mxl 189) (z_rt 189)) := by rfl
set_option maxRecDepth 20000 in
theorem zcw_190 : lw_tbl[1377]? = some (Cond.code (z_y 190) (zz_cd 190) (z_mxl 190) (z_rt 190)) := by rfl
set_option maxRecDepth 20000 in
theorem zcw_191 : lw_tbl[1381]? = some (Cond.code (z_y 191) (zz_cd 191) (z_mxl 191) (z_rt 191)) := by rfl
set_option maxRecDepth 20000 in
theorem zcw_192 : lw_tbl[1384]? = some (Cond.code (z_y 192) (zz_cd 192) (z_mxl 192) (z_rt 192)) := by rfl
set_option maxRecDepth 20000 in
theorem zcw_193 : lw_tbl[1388]? = some (Cond.code (z_y 193) (zz_cd 193) (z_mxl 193) (z_rt 193)) := by rfl
set_option maxRecDepth 20000 in
theorem zcw_194 : lw_tbl[1392]? = some (Cond.code (z_y 194) (zz_cd 194) (z_mxl 194) (z_rt 194)) := by rfl
set_option maxRecDepth 20000 in
theorem zcw_195 : lw_tbl[1396]? = some (Cond.code (z_y 195) (zz_cd 195) (z_mxl 195) (z_rt 195)) := by rfl
set_option maxRecDepth 20000 in
theorem zcw_196 : lw_tbl[1400]? = some (Cond.code (z_y 196) (zz_cd 196) (z_mxl 196) (z_rt 196)) := by rfl
set_option maxRecDepth 20000 in
theorem zcw_197 : lw_tbl[1404]? = some (Cond.code (z_y 197) (zz_cd 197) (z_mxl 197) (z_rt 197)) := by rfl
set_option maxRecDepth 20000 in
theorem zcw_198 : lw_tbl[1407]? = some (Cond.code (z_y 198) (zz_cd 198) (z_mxl 198) (z_rt 198)) := by rfl
set_option maxRecDepth 20000 in
theorem zcw_199 : lw_tbl[1411]? = some (Cond.code (z_y 199) (zz_cd 199) (z_mxl 199) (z_rt 199)) := by rfl
set_option maxRecDepth 20000 in
theorem zcw_200 : lw_tbl[1415]? = some (Cond.code (z_y 200) (zz_cd 200) (z_mxl 200) (z_rt 200)) := by rfl
set_option maxRecDepth 20000 in
theorem zcw_201 : lw_tbl[1419]? = some (Cond.code (z_y 201) (zz_cd 201) (z_mxl 201) (z_rt 201)) := by rfl
set_option maxRecDepth 20000 in
theorem zcw_202 : lw_tbl[1423]? = some (Cond.code (z_y 202) (zz_cd 202) (z_mxl 202) (z_rt 202)) := by rfl
set_option maxRecDepth 20000 in
theorem zcw_203 : lw_tbl[1427]? = some (Cond.code (z_y 203) (zz_cd 203) (z_mxl 203) (z_rt 203)) := by rfl
set_option maxRecDepth 20000 in
theorem zcw_204 : lw_tbl[1431]? = some (Cond.code (z_y 204) (zz_cd 204) (z_mxl 204) (z_rt 204)) := by rfl
set_option maxRecDepth 20000 in
theorem zcw_205 : lw_tbl[1435]? = some (Cond.code (z_y 205) (zz_cd 205) (z_mxl 205) (z_rt 205)) := by rfl
set_option maxRecDepth 20000 in
theorem zcw_206 : lw_tbl[1439]? = some (Cond.code (z_y 206) (zz_cd 206) (z_mxl 206) (z_rt 206)) := by rfl
set_option maxRecDepth 20000 in
theorem zcw_207 : lw_tbl[1443]? = some (Cond.code (z_y 207) (zz_cd 207) (z_mxl 207) (z_rt 207)) := by rfl
set_option maxRecDepth 20000 in
theorem zcw_208 : lw_tbl[1447]? = some (Cond.code (z_y 208) (zz_cd 208) (z_mxl 208) (z_rt 208)) := by rfl
set_option maxRecDepth 20000 in
theorem zcw_209 : lw_tbl[1450]? = some (Cond.code (z_y 209) (zz_cd 209) (z_mxl 209) (z_rt 209)) := by rfl
set_option maxRecDepth 20000 in
theorem zcw_210 : lw_tbl[1454]? = some (Cond.code (z_y 210) (zz_cd 210) (z_mxl 210) (z_rt 210)) := by rfl
set_option maxRecDepth 20000 in
theorem zcw_211 : lw_tbl[1458]? = some (Cond.code (z_y 211) (zz_cd 211) (z_mxl 211) (z_rt 211)) := by rfl
set_option maxRecDepth 20000 in
theorem zcw_212 : lw_tbl[1462]? = some (Cond.code (z_y 212) (zz_cd 212) (z_mxl 212) (z_rt 212)) := by rfl
set_option maxRecDepth 20000 in
theorem zcw_213 : lw_tbl[1465]? = some (Cond.code (z_y 213) (zz_cd 213) (z_mxl 213) (z_rt 213)) := by rfl
set_option maxRecDepth 20000 in
theorem zcw_214 : lw_tbl[1469]? = some (Cond.code (z_y 214) (zz_cd 214) (z_mxl 214) (z_rt 214)) := by rfl
set_option maxRecDepth 20000 in
theorem zcw_215 : lw_tbl[1473]? = some (Cond.code (z_y 215) (zz_cd 215) (z_mxl 215) (z_rt 215)) := by rfl
set_option maxRecDepth 20000 in
theorem zcw_216 : lw_tbl[1477]? = some (Cond.code (z_y 216) (zz_cd 216) (z_mxl 216) (z_rt 216)) := by rfl
set_option maxRecDepth 20000 in
theorem zcw_217 : lw_tbl[1481]? = some (Cond.code (z_y 217) (zz_cd 217) (z_mxl 217) (z_rt 217)) := by rfl
set_option maxRecDepth 20000 in
theorem zcw_218 : lw_tbl[1485]? = some (Cond.code (z_y 218) (zz_cd 218) (z_mxl 218) (z_rt 218)) := by rfl
set_option maxRecDepth 20000 in
theorem zcw_219 : lw_tbl[1489]? = some (Cond.code (z_y 219) (zz_cd 219) (z_mxl 219) (z_rt 219)) := by rfl
set_option maxRecDepth 20000 in
theorem zcw_220 : lw_tbl[1493]? = some (Cond.code (z_y 220) (zz_cd 220) (z_mxl 220) (z_rt 220)) := by rfl
set_option maxRecDepth 20000 in
theorem zcw_221 : lw_tbl[1497]? = some (Cond.code (z_y 221) (zz_cd 221) (z_mxl 221) (z_rt 221)) := by rfl
set_option maxRecDepth 20000 in
theorem zcw_222 : lw_tbl[1501]? = some (Cond.code (z_y 222) (zz_cd 222) (z_mxl 222) (z_rt 222)) := by rfl
set_option maxRecDepth 20000 in
theorem zcw_223 : lw_tbl[1505]? = some (Cond.code (z_y 223) (zz_cd 223) (z_mxl 223) (z_rt 223)) := by rfl
set_option maxRecDepth 20000 in
theorem zcw_224 : lw_tbl[1509]? = some (Cond.code (z_y 224) (zz_cd 224) (z_mxl 224) (z_rt 224)) := by rfl
set_option maxRecDepth 20000 in
theorem zcw_225 : lw_tbl[1513]? = some (Cond.code (z_y 225) (zz_cd 225) (z_mxl 225) (z_rt 225)) := by rfl
set_option maxRecDepth 20000 in
theorem zcw_226 : lw_tbl[1517]? = some (Cond.code (z_y 226) (zz_cd 226) (z_mxl 226) (z_rt 226)) := by rfl
set_option maxRecDepth 20000 in
theorem zcw_227 : lw_tbl[1521]? = some (Cond.code (z_y 227) (zz_cd 227) (z_mxl 227) (z_rt 227)) := by rfl
set_option maxRecDepth 20000 in
theorem zcw_228 : lw_tbl[1525]? = some (Cond.code (z_y 228) (zz_cd 228) (z_mxl 228) (z_rt 228)) := by rfl
set_option maxRecDepth 20000 in
theorem zcw_229 : lw_tbl[1529]? = some (Cond.code (z_y 229) (zz_cd 229) (z_mxl 229) (z_rt 229)) := by rfl
set_option maxRecDepth 20000 in
theorem zcw_230 : lw_tbl[1533]? = some (Cond.code (z_y 230) (zz_cd 230) (z_mxl 230) (z_rt 230)) := by rfl
set_option maxRecDepth 20000 in
theorem zcw_231 : lw_tbl[1537]? = some (Cond.code (z_y 231) (zz_cd 231) (z_mxl 231) (z_rt 231)) := by rfl
set_option maxRecDepth 20000 in
theorem zcw_232 : lw_tbl[1541]? = some (Cond.code (z_y 232) (zz_cd 232) (z_mxl 232) (z_rt 232)) := by rfl
set_option maxRecDepth 20000 in
theorem zcw_233 : lw_tbl[1545]? = some (Cond.code (z_y 233) (zz_cd 233) (z_mxl 233) (z_rt 233)) := by rfl
set_option maxRecDepth 20000 in
theorem zcw_234 : lw_tbl[1549]? = some (Cond.code (z_y 234) (zz_cd 234) (z_mxl 234) (z_rt 234)) := by rfl
set_option maxRecDepth 20000 in
theorem zcw_235 : lw_tbl[1553]? = some (Cond.code (z_y 235) (zz_cd 235) (z_mxl 235) (z_rt 235)) := by rfl
set_option maxRecDepth 20000 in
theorem zcw_236 : lw_tbl[1557]? = some (Cond.code (z_y 236) (zz_cd 236) (z_mxl 236) (z_rt 236)) := by rfl
set_option maxRecDepth 20000 in
theorem zcw_237 : lw_tbl[1561]? = some (Cond.code (z_y 237) (zz_cd 237) (z_mxl 237) (z_rt 237)) := by rfl
set_option maxRecDepth 20000 in
theorem zcw_238 : lw_tbl[1565]? = some (Cond.code (z_y 238) (zz_cd 238) (z_mxl 238) (z_rt 238)) := by rfl
set_option maxRecDepth 20000 in
theorem zcw_239 : lw_tbl[1569]? = some (Cond.code (z_y 239) (zz_cd 239) (z_mxl 239) (z_rt 239)) := by rfl
set_option maxRecDepth 20000 in
theorem zcw_240 : lw_tbl[1573]? = some (Cond.code (z_y 240) (zz_cd 240) (z_mxl 240) (z_rt 240)) := by rfl
set_option maxRecDepth 20000 in
theorem zcw_241 : lw_tbl[1577]? = some (Cond.code (z_y 241) (zz_cd 241) (z_mxl 241) (z_rt 241)) := by rfl
set_option maxRecDepth 20000 in
theorem zcw_242 : lw_tbl[1581]? = some (Cond.code (z_y 242) (zz_cd 242) (z_mxl 242) (z_rt 242)) := by rfl
set_option maxRecDepth 20000 in
theorem zcw_243 : lw_tbl[1585]? = some (Cond.code (z_y 243) (zz_cd 243) (z_mxl 243) (z_rt 243)) := by rfl
set_option maxRecDepth 20000 in
theorem zcw_244 : lw_tbl[1589]? = some (Cond.code (z_y 244) (zz_cd 244) (z_mxl 244) (z_rt 244)) := by rfl
set_option maxRecDepth 20000 in
theorem zcw_245 : lw_tbl[1593]? = some (Cond.code (z_y 245) (zz_cd 245) (z_mxl 245) (z_rt 245)) := by rfl
set_option maxRecDepth 20000 in
theorem zcw_246 : lw_tbl[1598]? = some (Cond.code (z_y 246) (zz_cd 246) (z_mxl 246) (z_rt 246)) := by rfl
set_option maxRecDepth 20000 in
theorem zcw_247 : lw_tbl[1603]? = some (Cond.code (z_y 247) (zz_cd 247) (z_mxl 247) (z_rt 247)) := by rfl
set_option maxRecDepth 20000 in
theorem zcw_249 : lw_tbl[422]? = some (Cond.code (z_y 249) (zz_cd 249) (z_mxl 249) (z_rt 249)) := by rfl
