theorem w_0 : Cond.methodLink RX0 3 objectInit ∈ lw_good := z_in (l := tables_1_1) (i := 83) rfl z_tb_1 rfl
theorem w_1 : Cond.instanceMethod objectInit ∈ lw_good := z_in (l := tables_1_1) (i := 25) rfl z_tb_1 rfl
theorem w_2 : Cond.code objectInit ⟨#[0xb1]⟩ 1 none ∈ lw_good := z_in (l := tables_1_1) (i := 26) rfl z_tb_1 rfl
theorem w_3 : Cond.arrayClass .int ∈ lw_good := z_in (l := tables_1_1) (i := 77) rfl z_tb_1 rfl
theorem w_4 : Cond.fieldLink RX0 9 RX0 "spot" "[I" ∈ lw_good := z_in (l := tables_1_1) (i := 84) rfl z_tb_1 rfl
theorem w_5 : Cond.fieldLink RX0 15 RX0 "right" "[I" ∈ lw_good := z_in (l := tables_1_1) (i := 87) rfl z_tb_1 rfl
theorem w_6 : Cond.methodLink RX3 3 objectInit ∈ lw_good := z_in (l := tables_1_1) (i := 38) rfl z_tb_1 rfl
theorem w_7 : Cond.fieldLink RX3 9 RX3 "homeCell" "[I" ∈ lw_good := z_in (l := tables_1_1) (i := 50) rfl z_tb_1 rfl
theorem w_8 : Cond.fieldLink RX3 15 RX3 "left" "[I" ∈ lw_good := z_in (l := tables_1_1) (i := 54) rfl z_tb_1 rfl
theorem w_9 : Cond.fieldLink RX3 18 RX3 "kind" "[I" ∈ lw_good := z_in (l := tables_1_1) (i := 59) rfl z_tb_1 rfl
theorem w_10 : Cond.methodLink RX6 3 objectInit ∈ lw_good := z_in (l := tables_1_1) (i := 108) rfl z_tb_1 rfl
theorem w_11 : Cond.fieldLink RX6 9 RX6 "turn" "[I" ∈ lw_good := z_in (l := tables_1_1) (i := 109) rfl z_tb_1 rfl
theorem w_12 : Cond.fieldLink RX6 15 RX6 "steps" "[I" ∈ lw_good := z_in (l := tables_1_1) (i := 112) rfl z_tb_1 rfl
theorem w_13 : Cond.methodLink RX7 3 objectInit ∈ lw_good := z_in (l := tables_1_1) (i := 153) rfl z_tb_1 rfl
theorem w_14 : Cond.fieldLink RX7 9 RX7 "whose" "[I" ∈ lw_good := z_in (l := tables_1_1) (i := 154) rfl z_tb_1 rfl
theorem w_15 : Cond.fieldLink RX7 15 RX7 "when" "[I" ∈ lw_good := z_in (l := tables_1_1) (i := 155) rfl z_tb_1 rfl
theorem w_16 : Cond.fieldLink RX7 18 RX7 "way" "[I" ∈ lw_good := z_in (l := tables_1_1) (i := 156) rfl z_tb_1 rfl
theorem w_17 : Cond.methodLink RX2 3 objectInit ∈ lw_good := z_in (l := tables_1_1) (i := 193) rfl z_tb_1 rfl
theorem w_18 : Cond.fieldLink RX2 9 RX2 "found" "[I" ∈ lw_good := z_in (l := tables_1_1) (i := 194) rfl z_tb_1 rfl
theorem w_19 : Cond.methodLink RX1 3 objectInit ∈ lw_good := z_in (l := tables_1_1) (i := 213) rfl z_tb_1 rfl
theorem w_20 : Cond.fieldLink RX1 9 RX1 "best" "[I" ∈ lw_good := z_in (l := tables_1_1) (i := 214) rfl z_tb_1 rfl
theorem w_21 : Cond.fieldLink RX1 15 RX1 "gets" "[I" ∈ lw_good := z_in (l := tables_1_1) (i := 218) rfl z_tb_1 rfl
theorem w_22 : Cond.methodLink RX5 3 objectInit ∈ lw_good := z_in (l := tables_1_1) (i := 32) rfl z_tb_1 rfl
theorem w_23 : Cond.classLink RX5 9 RX3 ∈ lw_good := z_in (l := tables_1_1) (i := 33) rfl z_tb_1 rfl
theorem w_24 : Cond.instantiable RX3 6 ∈ lw_good := z_in (l := tables_1_1) (i := 34) rfl z_tb_1 rfl
theorem w_25 : Cond.initialized RX3 ∈ lw_good := z_in (l := tables_1_1) (i := 3) rfl z_tb_1 rfl
theorem w_26 : Cond.code yX3_init cX3_init 1 none ∈ lw_good := z_in (l := tables_1_1) (i := 37) rfl z_tb_1 rfl
theorem w_27 : Cond.instanceMethod yX3_init ∈ lw_good := z_in (l := tables_1_1) (i := 36) rfl z_tb_1 rfl
theorem w_28 : Cond.fieldLink RX5 12 RX5 "land" "LBootsTurnHome$Land;" ∈ lw_good := z_in (l := tables_1_1) (i := 126) rfl z_tb_1 rfl
theorem w_29 : Cond.classLink RX5 18 RX0 ∈ lw_good := z_in (l := tables_1_1) (i := 78) rfl z_tb_1 rfl
theorem w_30 : Cond.instantiable RX0 4 ∈ lw_good := z_in (l := tables_1_1) (i := 79) rfl z_tb_1 rfl
theorem w_31 : Cond.initialized RX0 ∈ lw_good := z_in (l := tables_1_1) (i := 4) rfl z_tb_1 rfl
theorem w_32 : Cond.code yX0_init cX0_init 1 none ∈ lw_good := z_in (l := tables_1_1) (i := 82) rfl z_tb_1 rfl
theorem w_33 : Cond.instanceMethod yX0_init ∈ lw_good := z_in (l := tables_1_1) (i := 81) rfl z_tb_1 rfl
theorem w_34 : Cond.fieldLink RX5 21 RX5 "column" "LBootsTurnHome$Column;" ∈ lw_good := z_in (l := tables_1_1) (i := 128) rfl z_tb_1 rfl
theorem w_35 : Cond.classLink RX5 25 RX6 ∈ lw_good := z_in (l := tables_1_1) (i := 103) rfl z_tb_1 rfl
theorem w_36 : Cond.instantiable RX6 3 ∈ lw_good := z_in (l := tables_1_1) (i := 104) rfl z_tb_1 rfl
theorem w_37 : Cond.initialized RX6 ∈ lw_good := z_in (l := tables_1_1) (i := 5) rfl z_tb_1 rfl
theorem w_38 : Cond.code yX6_init cX6_init 1 none ∈ lw_good := z_in (l := tables_1_1) (i := 107) rfl z_tb_1 rfl
theorem w_39 : Cond.instanceMethod yX6_init ∈ lw_good := z_in (l := tables_1_1) (i := 106) rfl z_tb_1 rfl
theorem w_40 : Cond.fieldLink RX5 28 RX5 "row" "LBootsTurnHome$Row;" ∈ lw_good := z_in (l := tables_1_1) (i := 130) rfl z_tb_1 rfl
theorem w_41 : Cond.fieldLink RX5 32 RX5 "numbers" "[I" ∈ lw_good := z_in (l := tables_1_1) (i := 132) rfl z_tb_1 rfl
theorem w_42 : Cond.methodLink RX4 1 objectInit ∈ lw_good := z_in (l := tables_1_1) (i := 173) rfl z_tb_1 rfl
theorem w_43 : Cond.methodLink RX4 7 Lib.Math.max.name ∈ lw_good := z_in (l := tables_1_1) (i := 174) rfl z_tb_1 rfl
theorem w_44 : Cond.static Lib.Math.max.name ∈ lw_good := z_in (l := tables_1_1) (i := 175) rfl z_tb_1 rfl
theorem w_45 : Cond.initialized RJ9 ∈ lw_good := z_in (l := tables_1_1) (i := 8) rfl z_tb_1 rfl
theorem w_46 : Cond.code Lib.Math.max.name Lib.Math.max.code 2 (some .int) ∈ lw_good := z_in (l := tables_1_1) (i := 176) rfl z_tb_1 rfl
theorem w_47 : Cond.classLink RX4 13 RX0 ∈ lw_good := z_in (l := tables_1_1) (i := 177) rfl z_tb_1 rfl
theorem w_48 : Cond.fieldLink RX4 15 RX4 "columns" "[LBootsTurnHome$Column;" ∈ lw_good := z_in (l := tables_1_1) (i := 180) rfl z_tb_1 rfl
theorem w_49 : Cond.methodLink RX9 92 yX9_isWithin ∈ lw_good := z_in (l := tables_1_2) (i := 63) rfl z_tb_2 rfl
theorem w_50 : Cond.initialized RX9 ∈ lw_good := z_in (l := tables_1_1) (i := 1) rfl z_tb_1 rfl
theorem w_51 : Cond.code yX9_isWithin cX9_isWithin 3 (some .boolean) ∈ lw_good := z_in (l := tables_1_2) (i := 48) rfl z_tb_2 rfl
theorem w_52 : Cond.static yX9_isWithin ∈ lw_good := z_in (l := tables_1_2) (i := 47) rfl z_tb_2 rfl
theorem w_53 : Cond.fieldLink RX9 96 RX9 "length" "I" ∈ lw_good := z_in (l := tables_1_2) (i := 108) rfl z_tb_2 rfl
theorem w_54 : Cond.fieldLink RX9 9 RX9 "letters" "[C" ∈ lw_good := z_in (l := tables_1_2) (i := 107) rfl z_tb_2 rfl
theorem w_55 : Cond.fieldLink RX9 16 RX9 "reader" "LBootsTurnHome$Reader;" ∈ lw_good := z_in (l := tables_1_2) (i := 109) rfl z_tb_2 rfl
theorem w_56 : Cond.fieldLink RX5 36 RX3 "homes" "I" ∈ lw_good := z_in (l := tables_1_1) (i := 40) rfl z_tb_1 rfl
theorem w_57 : Cond.fieldLink RX5 40 RX3 "men" "I" ∈ lw_good := z_in (l := tables_1_1) (i := 43) rfl z_tb_1 rfl
theorem w_58 : Cond.fieldLink RX5 43 RX3 "far" "I" ∈ lw_good := z_in (l := tables_1_1) (i := 48) rfl z_tb_1 rfl
theorem w_59 : Cond.fieldLink RX5 46 RX6 "length" "I" ∈ lw_good := z_in (l := tables_1_1) (i := 117) rfl z_tb_1 rfl
theorem w_60 : Cond.methodLink RX5 53 yX5_numbersBehind ∈ lw_good := z_in (l := tables_1_2) (i := 40) rfl z_tb_2 rfl
theorem w_61 : Cond.initialized RX5 ∈ lw_good := z_in (l := tables_1_1) (i := 2) rfl z_tb_1 rfl
theorem w_62 : Cond.code yX5_numbersBehind cX5_numbersBehind 1 (some .int) ∈ lw_good := z_in (l := tables_1_2) (i := 42) rfl z_tb_2 rfl
theorem w_63 : Cond.static yX5_numbersBehind ∈ lw_good := z_in (l := tables_1_2) (i := 41) rfl z_tb_2 rfl
theorem w_64 : Cond.code yX5_takeFar cX5_takeFar 1 (some .boolean) ∈ lw_good := z_in (l := tables_1_2) (i := 85) rfl z_tb_2 rfl
theorem w_65 : Cond.instanceMethod yX5_takeFar ∈ lw_good := z_in (l := tables_1_2) (i := 84) rfl z_tb_2 rfl
theorem w_66 : Cond.selects RX5 yX5_takeFar yX5_takeFar ∈ lw_good := z_in (l := k2_sels lw_privs) (i := 4) rfl z_tblS rfl
theorem w_67 : Cond.methodLink RX5 85 yX5_takeFar ∈ lw_good := z_in (l := tables_1_2) (i := 82) rfl z_tb_2 rfl
theorem w_68 : Cond.code yX9_isCell cX9_isCell 2 (some .boolean) ∈ lw_good := z_in (l := tables_1_2) (i := 62) rfl z_tb_2 rfl
theorem w_69 : Cond.static yX9_isCell ∈ lw_good := z_in (l := tables_1_2) (i := 61) rfl z_tb_2 rfl
theorem w_70 : Cond.fieldLink RX5 91 RX3 "homeCell" "[I" ∈ lw_good := z_in (l := tables_1_1) (i := 53) rfl z_tb_1 rfl
theorem w_71 : Cond.methodLink RX5 94 yX8_cellAt ∈ lw_good := z_in (l := tables_1_2) (i := 64) rfl z_tb_2 rfl
theorem w_72 : Cond.initialized RX8 ∈ lw_good := z_in (l := tables_1_1) (i := 15) rfl z_tb_1 rfl
theorem w_73 : Cond.code yX8_cellAt cX8_cellAt 2 (some .int) ∈ lw_good := z_in (l := tables_1_2) (i := 66) rfl z_tb_2 rfl
theorem w_74 : Cond.static yX8_cellAt ∈ lw_good := z_in (l := tables_1_2) (i := 65) rfl z_tb_2 rfl
theorem w_75 : Cond.code yX5_takeHome cX5_takeHome 1 (some .boolean) ∈ lw_good := z_in (l := tables_1_2) (i := 59) rfl z_tb_2 rfl
theorem w_76 : Cond.instanceMethod yX5_takeHome ∈ lw_good := z_in (l := tables_1_2) (i := 58) rfl z_tb_2 rfl
theorem w_77 : Cond.selects RX5 yX5_takeHome yX5_takeHome ∈ lw_good := z_in (l := k2_sels lw_privs) (i := 2) rfl z_tblS rfl
theorem w_78 : Cond.methodLink RX5 71 yX5_takeHome ∈ lw_good := z_in (l := tables_1_2) (i := 56) rfl z_tb_2 rfl
theorem w_79 : Cond.fieldLink RX5 100 RX0 "spot" "[I" ∈ lw_good := z_in (l := tables_1_1) (i := 86) rfl z_tb_1 rfl
theorem w_80 : Cond.methodLink RX8 9 yX8_cellAt ∈ lw_good := z_in (l := tables_1_2) (i := 74) rfl z_tb_2 rfl
theorem w_81 : Cond.methodLink RX5 103 yX8_spotAt ∈ lw_good := z_in (l := tables_1_2) (i := 71) rfl z_tb_2 rfl
theorem w_82 : Cond.code yX8_spotAt cX8_spotAt 3 (some .int) ∈ lw_good := z_in (l := tables_1_2) (i := 73) rfl z_tb_2 rfl
theorem w_83 : Cond.static yX8_spotAt ∈ lw_good := z_in (l := tables_1_2) (i := 72) rfl z_tb_2 rfl
theorem w_84 : Cond.fieldLink RX5 107 RX3 "left" "[I" ∈ lw_good := z_in (l := tables_1_1) (i := 58) rfl z_tb_1 rfl
theorem w_85 : Cond.fieldLink RX5 110 RX0 "right" "[I" ∈ lw_good := z_in (l := tables_1_1) (i := 90) rfl z_tb_1 rfl
theorem w_86 : Cond.fieldLink RX5 113 RX3 "kind" "[I" ∈ lw_good := z_in (l := tables_1_1) (i := 62) rfl z_tb_1 rfl
theorem w_87 : Cond.code yX5_takeMan cX5_takeMan 1 (some .boolean) ∈ lw_good := z_in (l := tables_1_2) (i := 70) rfl z_tb_2 rfl
theorem w_88 : Cond.instanceMethod yX5_takeMan ∈ lw_good := z_in (l := tables_1_2) (i := 69) rfl z_tb_2 rfl
theorem w_89 : Cond.selects RX5 yX5_takeMan yX5_takeMan ∈ lw_good := z_in (l := k2_sels lw_privs) (i := 3) rfl z_tblS rfl
theorem w_90 : Cond.methodLink RX5 75 yX5_takeMan ∈ lw_good := z_in (l := tables_1_2) (i := 67) rfl z_tb_2 rfl
theorem w_91 : Cond.code yX9_isOrder cX9_isOrder 2 (some .boolean) ∈ lw_good := z_in (l := tables_1_2) (i := 77) rfl z_tb_2 rfl
theorem w_92 : Cond.static yX9_isOrder ∈ lw_good := z_in (l := tables_1_2) (i := 76) rfl z_tb_2 rfl
theorem w_93 : Cond.fieldLink RX6 18 RX6 "length" "I" ∈ lw_good := z_in (l := tables_1_1) (i := 115) rfl z_tb_1 rfl
theorem w_94 : Cond.code yX6_add cX6_add 3 (some .boolean) ∈ lw_good := z_in (l := tables_1_2) (i := 81) rfl z_tb_2 rfl
theorem w_95 : Cond.instanceMethod yX6_add ∈ lw_good := z_in (l := tables_1_2) (i := 79) rfl z_tb_2 rfl
theorem w_96 : Cond.selects RX6 yX6_add yX6_add ∈ lw_good := z_in (l := tables_1_2) (i := 80) rfl z_tb_2 rfl
theorem w_97 : Cond.methodLink RX5 82 yX6_add ∈ lw_good := z_in (l := tables_1_2) (i := 78) rfl z_tb_2 rfl
theorem w_98 : Cond.code yX5_takeItem cX5_takeItem 2 (some .boolean) ∈ lw_good := z_in (l := tables_1_2) (i := 55) rfl z_tb_2 rfl
theorem w_99 : Cond.instanceMethod yX5_takeItem ∈ lw_good := z_in (l := tables_1_2) (i := 54) rfl z_tb_2 rfl
theorem w_100 : Cond.selects RX5 yX5_takeItem yX5_takeItem ∈ lw_good := z_in (l := k2_sels lw_privs) (i := 1) rfl z_tblS rfl
theorem w_101 : Cond.methodLink RX5 63 yX5_takeItem ∈ lw_good := z_in (l := tables_1_2) (i := 52) rfl z_tb_2 rfl
theorem w_102 : Cond.methodLink RX5 57 yX5_figuresAt ∈ lw_good := z_in (l := tables_1_2) (i := 43) rfl z_tb_2 rfl
theorem w_103 : Cond.code yX5_figuresAt cX5_figuresAt 4 (some .int) ∈ lw_good := z_in (l := tables_1_2) (i := 45) rfl z_tb_2 rfl
theorem w_104 : Cond.static yX5_figuresAt ∈ lw_good := z_in (l := tables_1_2) (i := 44) rfl z_tb_2 rfl
theorem w_105 : Cond.methodLink RX5 60 yX5_numberAt ∈ lw_good := z_in (l := tables_1_2) (i := 49) rfl z_tb_2 rfl
theorem w_106 : Cond.code yX5_numberAt cX5_numberAt 5 (some .int) ∈ lw_good := z_in (l := tables_1_2) (i := 51) rfl z_tb_2 rfl
theorem w_107 : Cond.static yX5_numberAt ∈ lw_good := z_in (l := tables_1_2) (i := 50) rfl z_tb_2 rfl
theorem w_108 : Cond.code yX5_readItem cX5_readItem 9 (some .int) ∈ lw_good := z_in (l := tables_1_2) (i := 39) rfl z_tb_2 rfl
theorem w_109 : Cond.instanceMethod yX5_readItem ∈ lw_good := z_in (l := tables_1_2) (i := 38) rfl z_tb_2 rfl
theorem w_110 : Cond.selects RX5 yX5_readItem yX5_readItem ∈ lw_good := z_in (l := k2_sels lw_privs) (i := 0) rfl z_tblS rfl
theorem w_111 : Cond.methodLink RX5 49 yX5_readItem ∈ lw_good := z_in (l := tables_1_2) (i := 36) rfl z_tb_2 rfl
theorem w_112 : Cond.code yX5_readAll cX5_readAll 6 (some .int) ∈ lw_good := z_in (l := tables_1_2) (i := 35) rfl z_tb_2 rfl
theorem w_113 : Cond.instanceMethod yX5_readAll ∈ lw_good := z_in (l := tables_1_2) (i := 33) rfl z_tb_2 rfl
theorem w_114 : Cond.selects RX5 yX5_readAll yX5_readAll ∈ lw_good := z_in (l := tables_1_2) (i := 34) rfl z_tb_2 rfl
theorem w_115 : Cond.methodLink RX9 85 yX5_readAll ∈ lw_good := z_in (l := tables_1_2) (i := 32) rfl z_tb_2 rfl
theorem w_116 : Cond.code yX5_hasHomeAndMan cX5_hasHomeAndMan 1 (some .boolean) ∈ lw_good := z_in (l := tables_1_2) (i := 164) rfl z_tb_2 rfl
theorem w_117 : Cond.instanceMethod yX5_hasHomeAndMan ∈ lw_good := z_in (l := tables_1_2) (i := 162) rfl z_tb_2 rfl
theorem w_118 : Cond.selects RX5 yX5_hasHomeAndMan yX5_hasHomeAndMan ∈ lw_good := z_in (l := tables_1_2) (i := 163) rfl z_tb_2 rfl
theorem w_119 : Cond.methodLink RX9 100 yX5_hasHomeAndMan ∈ lw_good := z_in (l := tables_1_2) (i := 161) rfl z_tb_2 rfl
theorem w_120 : Cond.fieldLink RX9 23 RX9 "land" "LBootsTurnHome$Land;" ∈ lw_good := z_in (l := tables_1_2) (i := 110) rfl z_tb_2 rfl
theorem w_121 : Cond.fieldLink RX9 280 RX5 "land" "LBootsTurnHome$Land;" ∈ lw_good := z_in (l := tables_1_1) (i := 127) rfl z_tb_1 rfl
theorem w_122 : Cond.fieldLink RX3 21 RX3 "homes" "I" ∈ lw_good := z_in (l := tables_1_1) (i := 39) rfl z_tb_1 rfl
theorem w_123 : Cond.fieldLink RX3 25 RX3 "men" "I" ∈ lw_good := z_in (l := tables_1_1) (i := 42) rfl z_tb_1 rfl
theorem w_124 : Cond.fieldLink RX3 28 RX3 "far" "I" ∈ lw_good := z_in (l := tables_1_1) (i := 47) rfl z_tb_1 rfl
theorem w_125 : Cond.methodLink RX3 31 arraycopyName ∈ lw_good := z_in (l := tables_1_2) (i := 94) rfl z_tb_2 rfl
theorem w_126 : Cond.native arraycopyName ∈ lw_good := z_in (l := tables_1_2) (i := 96) rfl z_tb_2 rfl
theorem w_127 : Cond.static arraycopyName ∈ lw_good := z_in (l := tables_1_2) (i := 95) rfl z_tb_2 rfl
theorem w_128 : Cond.initialized RJ10 ∈ lw_good := z_in (l := tables_1_1) (i := 16) rfl z_tb_1 rfl
theorem w_129 : Cond.code yX3_copyFrom cX3_copyFrom 2 none ∈ lw_good := z_in (l := tables_1_2) (i := 93) rfl z_tb_2 rfl
theorem w_130 : Cond.instanceMethod yX3_copyFrom ∈ lw_good := z_in (l := tables_1_2) (i := 91) rfl z_tb_2 rfl
theorem w_131 : Cond.selects RX3 yX3_copyFrom yX3_copyFrom ∈ lw_good := z_in (l := tables_1_2) (i := 92) rfl z_tb_2 rfl
theorem w_132 : Cond.methodLink RX9 281 yX3_copyFrom ∈ lw_good := z_in (l := tables_1_2) (i := 90) rfl z_tb_2 rfl
theorem w_133 : Cond.fieldLink RX9 30 RX9 "column" "LBootsTurnHome$Column;" ∈ lw_good := z_in (l := tables_1_2) (i := 111) rfl z_tb_2 rfl
theorem w_134 : Cond.fieldLink RX9 284 RX5 "column" "LBootsTurnHome$Column;" ∈ lw_good := z_in (l := tables_1_1) (i := 129) rfl z_tb_1 rfl
theorem w_135 : Cond.methodLink RX0 18 arraycopyName ∈ lw_good := z_in (l := tables_1_2) (i := 101) rfl z_tb_2 rfl
theorem w_136 : Cond.fieldLink RX0 24 RX0 "tiedBits" "I" ∈ lw_good := z_in (l := tables_1_1) (i := 91) rfl z_tb_1 rfl
theorem w_137 : Cond.fieldLink RX0 28 RX0 "given" "I" ∈ lw_good := z_in (l := tables_1_1) (i := 92) rfl z_tb_1 rfl
theorem w_138 : Cond.code yX0_copyFrom cX0_copyFrom 2 none ∈ lw_good := z_in (l := tables_1_2) (i := 100) rfl z_tb_2 rfl
theorem w_139 : Cond.instanceMethod yX0_copyFrom ∈ lw_good := z_in (l := tables_1_2) (i := 98) rfl z_tb_2 rfl
theorem w_140 : Cond.selects RX0 yX0_copyFrom yX0_copyFrom ∈ lw_good := z_in (l := tables_1_2) (i := 99) rfl z_tb_2 rfl
theorem w_141 : Cond.methodLink RX9 213 yX0_copyFrom ∈ lw_good := z_in (l := tables_1_2) (i := 97) rfl z_tb_2 rfl
theorem w_142 : Cond.fieldLink RX9 40 RX9 "row" "LBootsTurnHome$Row;" ∈ lw_good := z_in (l := tables_1_2) (i := 113) rfl z_tb_2 rfl
theorem w_143 : Cond.fieldLink RX9 285 RX5 "row" "LBootsTurnHome$Row;" ∈ lw_good := z_in (l := tables_1_1) (i := 131) rfl z_tb_1 rfl
theorem w_144 : Cond.methodLink RX6 22 arraycopyName ∈ lw_good := z_in (l := tables_1_2) (i := 106) rfl z_tb_2 rfl
theorem w_145 : Cond.code yX6_copyFrom cX6_copyFrom 2 none ∈ lw_good := z_in (l := tables_1_2) (i := 105) rfl z_tb_2 rfl
theorem w_146 : Cond.instanceMethod yX6_copyFrom ∈ lw_good := z_in (l := tables_1_2) (i := 103) rfl z_tb_2 rfl
theorem w_147 : Cond.selects RX6 yX6_copyFrom yX6_copyFrom ∈ lw_good := z_in (l := tables_1_2) (i := 104) rfl z_tb_2 rfl
theorem w_148 : Cond.methodLink RX9 286 yX6_copyFrom ∈ lw_good := z_in (l := tables_1_2) (i := 102) rfl z_tb_2 rfl
theorem w_149 : Cond.fieldLink RX9 47 RX9 "sight" "LBootsTurnHome$Sight;" ∈ lw_good := z_in (l := tables_1_2) (i := 114) rfl z_tb_2 rfl
theorem w_150 : Cond.fieldLink RX9 202 RX7 "held" "I" ∈ lw_good := z_in (l := tables_1_1) (i := 158) rfl z_tb_1 rfl
theorem w_151 : Cond.fieldLink RX9 56 RX9 "undoable" "LBootsTurnHome$Pile;" ∈ lw_good := z_in (l := tables_1_2) (i := 115) rfl z_tb_2 rfl
theorem w_152 : Cond.fieldLink RX9 193 RX4 "held" "I" ∈ lw_good := z_in (l := tables_1_1) (i := 182) rfl z_tb_1 rfl
theorem w_153 : Cond.fieldLink RX9 60 RX9 "kept" "LBootsTurnHome$Pile;" ∈ lw_good := z_in (l := tables_1_2) (i := 116) rfl z_tb_2 rfl
theorem w_154 : Cond.code yX9_takeWhatWasRead cX9_takeWhatWasRead 1 none ∈ lw_good := z_in (l := tables_1_2) (i := 89) rfl z_tb_2 rfl
theorem w_155 : Cond.instanceMethod yX9_takeWhatWasRead ∈ lw_good := z_in (l := tables_1_2) (i := 88) rfl z_tb_2 rfl
theorem w_156 : Cond.selects RX9 yX9_takeWhatWasRead yX9_takeWhatWasRead ∈ lw_good := z_in (l := k2_sels lw_privs) (i := 5) rfl z_tblS rfl
theorem w_157 : Cond.methodLink RX9 89 yX9_takeWhatWasRead ∈ lw_good := z_in (l := tables_1_2) (i := 86) rfl z_tb_2 rfl
theorem w_158 : Cond.fieldLink RX9 104 RX3 "men" "I" ∈ lw_good := z_in (l := tables_1_1) (i := 46) rfl z_tb_1 rfl
theorem w_159 : Cond.code yX9_isMan cX9_isMan 2 (some .boolean) ∈ lw_good := z_in (l := tables_1_2) (i := 172) rfl z_tb_2 rfl
theorem w_160 : Cond.instanceMethod yX9_isMan ∈ lw_good := z_in (l := tables_1_2) (i := 171) rfl z_tb_2 rfl
theorem w_161 : Cond.selects RX9 yX9_isMan yX9_isMan ∈ lw_good := z_in (l := k2_sels lw_privs) (i := 6) rfl z_tblS rfl
theorem w_162 : Cond.methodLink RX9 107 yX9_isMan ∈ lw_good := z_in (l := tables_1_2) (i := 169) rfl z_tb_2 rfl
theorem w_163 : Cond.fieldLink RX9 121 RX3 "left" "[I" ∈ lw_good := z_in (l := tables_1_1) (i := 57) rfl z_tb_1 rfl
theorem w_164 : Cond.fieldLink RX9 124 RX0 "right" "[I" ∈ lw_good := z_in (l := tables_1_1) (i := 89) rfl z_tb_1 rfl
theorem w_165 : Cond.fieldLink RX9 127 RX3 "kind" "[I" ∈ lw_good := z_in (l := tables_1_1) (i := 61) rfl z_tb_1 rfl
theorem w_166 : Cond.code yX0_isTied cX0_isTied 2 (some .boolean) ∈ lw_good := z_in (l := tables_1_2) (i := 191) rfl z_tb_2 rfl
theorem w_167 : Cond.instanceMethod yX0_isTied ∈ lw_good := z_in (l := tables_1_2) (i := 189) rfl z_tb_2 rfl
theorem w_168 : Cond.selects RX0 yX0_isTied yX0_isTied ∈ lw_good := z_in (l := tables_1_2) (i := 190) rfl z_tb_2 rfl
theorem w_169 : Cond.methodLink RX9 130 yX0_isTied ∈ lw_good := z_in (l := tables_1_2) (i := 188) rfl z_tb_2 rfl
theorem w_170 : Cond.methodLink RX9 133 yX9_asNumber ∈ lw_good := z_in (l := tables_1_2) (i := 192) rfl z_tb_2 rfl
theorem w_171 : Cond.code yX9_asNumber cX9_asNumber 1 (some .int) ∈ lw_good := z_in (l := tables_1_2) (i := 194) rfl z_tb_2 rfl
theorem w_172 : Cond.static yX9_asNumber ∈ lw_good := z_in (l := tables_1_2) (i := 193) rfl z_tb_2 rfl
theorem w_173 : Cond.methodLink RX0 65 yX8_cellOf ∈ lw_good := z_in (l := tables_1_2) (i := 199) rfl z_tb_2 rfl
theorem w_174 : Cond.code yX8_cellOf cX8_cellOf 1 (some .int) ∈ lw_good := z_in (l := tables_1_2) (i := 178) rfl z_tb_2 rfl
theorem w_175 : Cond.static yX8_cellOf ∈ lw_good := z_in (l := tables_1_2) (i := 177) rfl z_tb_2 rfl
theorem w_176 : Cond.methodLink RX8 19 yX8_columnOf ∈ lw_good := z_in (l := tables_1_2) (i := 179) rfl z_tb_2 rfl
theorem w_177 : Cond.code yX8_columnOf cX8_columnOf 1 (some .int) ∈ lw_good := z_in (l := tables_1_2) (i := 181) rfl z_tb_2 rfl
theorem w_178 : Cond.static yX8_columnOf ∈ lw_good := z_in (l := tables_1_2) (i := 180) rfl z_tb_2 rfl
theorem w_179 : Cond.methodLink RX8 28 Lib.Math.abs.name ∈ lw_good := z_in (l := tables_1_2) (i := 203) rfl z_tb_2 rfl
theorem w_180 : Cond.static Lib.Math.abs.name ∈ lw_good := z_in (l := tables_1_2) (i := 204) rfl z_tb_2 rfl
theorem w_181 : Cond.code Lib.Math.abs.name Lib.Math.abs.code 1 (some .int) ∈ lw_good := z_in (l := tables_1_2) (i := 205) rfl z_tb_2 rfl
theorem w_182 : Cond.methodLink RX8 22 yX8_rowOf ∈ lw_good := z_in (l := tables_1_2) (i := 182) rfl z_tb_2 rfl
theorem w_183 : Cond.code yX8_rowOf cX8_rowOf 1 (some .int) ∈ lw_good := z_in (l := tables_1_2) (i := 184) rfl z_tb_2 rfl
theorem w_184 : Cond.static yX8_rowOf ∈ lw_good := z_in (l := tables_1_2) (i := 183) rfl z_tb_2 rfl
theorem w_185 : Cond.methodLink RX8 33 Lib.Math.max.name ∈ lw_good := z_in (l := tables_1_2) (i := 206) rfl z_tb_2 rfl
theorem w_186 : Cond.methodLink RX0 68 yX8_apart ∈ lw_good := z_in (l := tables_1_2) (i := 200) rfl z_tb_2 rfl
theorem w_187 : Cond.code yX8_apart cX8_apart 2 (some .int) ∈ lw_good := z_in (l := tables_1_2) (i := 202) rfl z_tb_2 rfl
theorem w_188 : Cond.static yX8_apart ∈ lw_good := z_in (l := tables_1_2) (i := 201) rfl z_tb_2 rfl
theorem w_189 : Cond.fieldLink RX0 72 RX3 "far" "I" ∈ lw_good := z_in (l := tables_1_1) (i := 49) rfl z_tb_1 rfl
theorem w_190 : Cond.code yX0_isLost cX0_isLost 3 (some .boolean) ∈ lw_good := z_in (l := tables_1_2) (i := 198) rfl z_tb_2 rfl
theorem w_191 : Cond.instanceMethod yX0_isLost ∈ lw_good := z_in (l := tables_1_2) (i := 196) rfl z_tb_2 rfl
theorem w_192 : Cond.selects RX0 yX0_isLost yX0_isLost ∈ lw_good := z_in (l := tables_1_2) (i := 197) rfl z_tb_2 rfl
theorem w_193 : Cond.methodLink RX9 137 yX0_isLost ∈ lw_good := z_in (l := tables_1_2) (i := 195) rfl z_tb_2 rfl
theorem w_194 : Cond.fieldLink RX0 56 RX3 "homeCell" "[I" ∈ lw_good := z_in (l := tables_1_1) (i := 51) rfl z_tb_1 rfl
theorem w_195 : Cond.fieldLink RX0 53 RX3 "left" "[I" ∈ lw_good := z_in (l := tables_1_1) (i := 56) rfl z_tb_1 rfl
theorem w_196 : Cond.code yX0_isAtHome cX0_isAtHome 3 (some .boolean) ∈ lw_good := z_in (l := tables_1_2) (i := 210) rfl z_tb_2 rfl
theorem w_197 : Cond.instanceMethod yX0_isAtHome ∈ lw_good := z_in (l := tables_1_2) (i := 208) rfl z_tb_2 rfl
theorem w_198 : Cond.selects RX0 yX0_isAtHome yX0_isAtHome ∈ lw_good := z_in (l := tables_1_2) (i := 209) rfl z_tb_2 rfl
theorem w_199 : Cond.methodLink RX9 141 yX0_isAtHome ∈ lw_good := z_in (l := tables_1_2) (i := 207) rfl z_tb_2 rfl
theorem w_200 : Cond.fieldLink RX9 111 RX0 "spot" "[I" ∈ lw_good := z_in (l := tables_1_1) (i := 85) rfl z_tb_1 rfl
theorem w_201 : Cond.methodLink RX8 25 yX8_lookOf ∈ lw_good := z_in (l := tables_1_2) (i := 185) rfl z_tb_2 rfl
theorem w_202 : Cond.code yX8_lookOf cX8_lookOf 1 (some .int) ∈ lw_good := z_in (l := tables_1_2) (i := 187) rfl z_tb_2 rfl
theorem w_203 : Cond.static yX8_lookOf ∈ lw_good := z_in (l := tables_1_2) (i := 186) rfl z_tb_2 rfl
theorem w_204 : Cond.methodLink RX8 15 yX8_cellOf ∈ lw_good := z_in (l := tables_1_2) (i := 176) rfl z_tb_2 rfl
theorem w_205 : Cond.methodLink RX9 115 yX8_partOf ∈ lw_good := z_in (l := tables_1_2) (i := 173) rfl z_tb_2 rfl
theorem w_206 : Cond.code yX8_partOf cX8_partOf 2 (some .int) ∈ lw_good := z_in (l := tables_1_2) (i := 175) rfl z_tb_2 rfl
theorem w_207 : Cond.static yX8_partOf ∈ lw_good := z_in (l := tables_1_2) (i := 174) rfl z_tb_2 rfl
theorem w_208 : Cond.fieldLink RX9 144 RX3 "homes" "I" ∈ lw_good := z_in (l := tables_1_1) (i := 41) rfl z_tb_1 rfl
theorem w_209 : Cond.fieldLink RX9 147 RX3 "homeCell" "[I" ∈ lw_good := z_in (l := tables_1_1) (i := 52) rfl z_tb_1 rfl
theorem w_210 : Cond.methodLink RX9 154 yX8_rowOf ∈ lw_good := z_in (l := tables_1_2) (i := 216) rfl z_tb_2 rfl
theorem w_211 : Cond.methodLink RX9 150 yX8_columnOf ∈ lw_good := z_in (l := tables_1_2) (i := 215) rfl z_tb_2 rfl
theorem w_212 : Cond.fieldLink RX9 157 RX6 "length" "I" ∈ lw_good := z_in (l := tables_1_1) (i := 118) rfl z_tb_1 rfl
theorem w_213 : Cond.code yX6_asTold cX6_asTold 2 (some .int) ∈ lw_good := z_in (l := tables_1_2) (i := 224) rfl z_tb_2 rfl
theorem w_214 : Cond.instanceMethod yX6_asTold ∈ lw_good := z_in (l := tables_1_2) (i := 222) rfl z_tb_2 rfl
theorem w_215 : Cond.selects RX6 yX6_asTold yX6_asTold ∈ lw_good := z_in (l := tables_1_2) (i := 223) rfl z_tb_2 rfl
theorem w_216 : Cond.methodLink RX9 158 yX6_asTold ∈ lw_good := z_in (l := tables_1_2) (i := 221) rfl z_tb_2 rfl
theorem w_217 : Cond.methodLink RX9 161 yX9_isCell ∈ lw_good := z_in (l := tables_1_2) (i := 229) rfl z_tb_2 rfl
theorem w_218 : Cond.methodLink RX9 165 yX8_cellAt ∈ lw_good := z_in (l := tables_1_2) (i := 230) rfl z_tb_2 rfl
theorem w_219 : Cond.methodLink RX9 168 yX8_wayTo ∈ lw_good := z_in (l := tables_1_2) (i := 231) rfl z_tb_2 rfl
theorem w_220 : Cond.code yX8_wayTo cX8_wayTo 6 (some .int) ∈ lw_good := z_in (l := tables_1_2) (i := 233) rfl z_tb_2 rfl
theorem w_221 : Cond.static yX8_wayTo ∈ lw_good := z_in (l := tables_1_2) (i := 232) rfl z_tb_2 rfl
theorem w_222 : Cond.methodLink RX9 171 yX9_isOrder ∈ lw_good := z_in (l := tables_1_2) (i := 238) rfl z_tb_2 rfl
theorem w_223 : Cond.fieldLink RX4 22 RX4 "held" "I" ∈ lw_good := z_in (l := tables_1_1) (i := 181) rfl z_tb_1 rfl
theorem w_224 : Cond.initialized RX4 ∈ lw_good := z_in (l := tables_1_1) (i := 7) rfl z_tb_1 rfl
theorem w_225 : Cond.code yX4_dropLowest cX4_dropLowest 3 none ∈ lw_good := z_in (l := tables_1_3) (i := 6) rfl z_tb_3 rfl
theorem w_226 : Cond.instanceMethod yX4_dropLowest ∈ lw_good := z_in (l := tables_1_3) (i := 5) rfl z_tb_3 rfl
theorem w_227 : Cond.selects RX4 yX4_dropLowest yX4_dropLowest ∈ lw_good := z_in (l := k2_sels lw_privs) (i := 7) rfl z_tblS rfl
theorem w_228 : Cond.methodLink RX4 26 yX4_dropLowest ∈ lw_good := z_in (l := tables_1_3) (i := 3) rfl z_tb_3 rfl
theorem w_229 : Cond.methodLink RX4 29 yX0_copyFrom ∈ lw_good := z_in (l := tables_1_3) (i := 7) rfl z_tb_3 rfl
theorem w_230 : Cond.code yX4_put cX4_put 2 none ∈ lw_good := z_in (l := tables_1_3) (i := 2) rfl z_tb_3 rfl
theorem w_231 : Cond.instanceMethod yX4_put ∈ lw_good := z_in (l := tables_1_3) (i := 0) rfl z_tb_3 rfl
theorem w_232 : Cond.selects RX4 yX4_put yX4_put ∈ lw_good := z_in (l := tables_1_3) (i := 1) rfl z_tb_3 rfl
theorem w_233 : Cond.methodLink RX9 174 yX4_put ∈ lw_good := z_in (l := tables_1_2) (i := 239) rfl z_tb_2 rfl
theorem w_234 : Cond.fieldLink RX0 31 RX3 "men" "I" ∈ lw_good := z_in (l := tables_1_1) (i := 45) rfl z_tb_1 rfl
theorem w_235 : Cond.methodLink RX0 49 yX0_isTied ∈ lw_good := z_in (l := tables_1_3) (i := 16) rfl z_tb_3 rfl
theorem w_236 : Cond.code yX0_pullOn cX0_pullOn 3 (some .int) ∈ lw_good := z_in (l := tables_1_3) (i := 15) rfl z_tb_3 rfl
theorem w_237 : Cond.instanceMethod yX0_pullOn ∈ lw_good := z_in (l := tables_1_3) (i := 13) rfl z_tb_3 rfl
theorem w_238 : Cond.selects RX0 yX0_pullOn yX0_pullOn ∈ lw_good := z_in (l := tables_1_3) (i := 14) rfl z_tb_3 rfl
theorem w_239 : Cond.methodLink RX0 36 yX0_pullOn ∈ lw_good := z_in (l := tables_1_3) (i := 12) rfl z_tb_3 rfl
theorem w_240 : Cond.fieldLink RX0 40 RX3 "kind" "[I" ∈ lw_good := z_in (l := tables_1_1) (i := 60) rfl z_tb_1 rfl
theorem w_241 : Cond.fieldLink RX8 44 RX8 "COLUMN_STEP" "[I" ∈ lw_good := z_in (l := tables_1_3) (i := 23) rfl z_tb_3 rfl
theorem w_242 : Cond.fieldLink RX8 48 RX8 "ROW_STEP" "[I" ∈ lw_good := z_in (l := tables_1_3) (i := 25) rfl z_tb_3 rfl
theorem w_243 : Cond.methodLink RX8 55 yX8_spotAt ∈ lw_good := z_in (l := tables_1_3) (i := 28) rfl z_tb_3 rfl
theorem w_244 : Cond.methodLink RX8 36 yX8_marched ∈ lw_good := z_in (l := tables_1_3) (i := 20) rfl z_tb_3 rfl
theorem w_245 : Cond.code yX8_marched cX8_marched 9 (some .int) ∈ lw_good := z_in (l := tables_1_3) (i := 22) rfl z_tb_3 rfl
theorem w_246 : Cond.static yX8_marched ∈ lw_good := z_in (l := tables_1_3) (i := 21) rfl z_tb_3 rfl
theorem w_247 : Cond.methodLink RX8 58 yX8_wayTo ∈ lw_good := z_in (l := tables_1_3) (i := 32) rfl z_tb_3 rfl
theorem w_248 : Cond.methodLink RX8 61 yX8_shorterTurn ∈ lw_good := z_in (l := tables_1_3) (i := 33) rfl z_tb_3 rfl
theorem w_249 : Cond.code yX8_shorterTurn cX8_shorterTurn 3 (some .int) ∈ lw_good := z_in (l := tables_1_3) (i := 35) rfl z_tb_3 rfl
theorem w_250 : Cond.static yX8_shorterTurn ∈ lw_good := z_in (l := tables_1_3) (i := 34) rfl z_tb_3 rfl
theorem w_251 : Cond.methodLink RX8 73 Lib.Math.min.name ∈ lw_good := z_in (l := tables_1_3) (i := 42) rfl z_tb_3 rfl
theorem w_252 : Cond.static Lib.Math.min.name ∈ lw_good := z_in (l := tables_1_3) (i := 43) rfl z_tb_3 rfl
theorem w_253 : Cond.code Lib.Math.min.name Lib.Math.min.code 2 (some .int) ∈ lw_good := z_in (l := tables_1_3) (i := 44) rfl z_tb_3 rfl
theorem w_254 : Cond.methodLink RX8 67 yX8_atMost ∈ lw_good := z_in (l := tables_1_3) (i := 39) rfl z_tb_3 rfl
theorem w_255 : Cond.code yX8_atMost cX8_atMost 2 (some .int) ∈ lw_good := z_in (l := tables_1_3) (i := 41) rfl z_tb_3 rfl
theorem w_256 : Cond.static yX8_atMost ∈ lw_good := z_in (l := tables_1_3) (i := 40) rfl z_tb_3 rfl
theorem w_257 : Cond.methodLink RX8 70 yX8_contrary ∈ lw_good := z_in (l := tables_1_3) (i := 45) rfl z_tb_3 rfl
theorem w_258 : Cond.code yX8_contrary cX8_contrary 1 (some .int) ∈ lw_good := z_in (l := tables_1_3) (i := 47) rfl z_tb_3 rfl
theorem w_259 : Cond.static yX8_contrary ∈ lw_good := z_in (l := tables_1_3) (i := 46) rfl z_tb_3 rfl
theorem w_260 : Cond.methodLink RX8 64 yX8_eighthsToRight ∈ lw_good := z_in (l := tables_1_3) (i := 36) rfl z_tb_3 rfl
theorem w_261 : Cond.code yX8_eighthsToRight cX8_eighthsToRight 3 (some .int) ∈ lw_good := z_in (l := tables_1_3) (i := 38) rfl z_tb_3 rfl
theorem w_262 : Cond.static yX8_eighthsToRight ∈ lw_good := z_in (l := tables_1_3) (i := 37) rfl z_tb_3 rfl
theorem w_263 : Cond.methodLink RX8 40 yX8_halted ∈ lw_good := z_in (l := tables_1_3) (i := 29) rfl z_tb_3 rfl
theorem w_264 : Cond.code yX8_halted cX8_halted 7 (some .int) ∈ lw_good := z_in (l := tables_1_3) (i := 31) rfl z_tb_3 rfl
theorem w_265 : Cond.static yX8_halted ∈ lw_good := z_in (l := tables_1_3) (i := 30) rfl z_tb_3 rfl
theorem w_266 : Cond.methodLink RX0 43 yX8_ordered ∈ lw_good := z_in (l := tables_1_3) (i := 17) rfl z_tb_3 rfl
theorem w_267 : Cond.code yX8_ordered cX8_ordered 6 (some .int) ∈ lw_good := z_in (l := tables_1_3) (i := 19) rfl z_tb_3 rfl
theorem w_268 : Cond.static yX8_ordered ∈ lw_good := z_in (l := tables_1_3) (i := 18) rfl z_tb_3 rfl
theorem w_269 : Cond.code yX0_obey cX0_obey 5 none ∈ lw_good := z_in (l := tables_1_3) (i := 11) rfl z_tb_3 rfl
theorem w_270 : Cond.instanceMethod yX0_obey ∈ lw_good := z_in (l := tables_1_3) (i := 9) rfl z_tb_3 rfl
theorem w_271 : Cond.selects RX0 yX0_obey yX0_obey ∈ lw_good := z_in (l := tables_1_3) (i := 10) rfl z_tb_3 rfl
theorem w_272 : Cond.methodLink RX9 178 yX0_obey ∈ lw_good := z_in (l := tables_1_3) (i := 8) rfl z_tb_3 rfl
theorem w_273 : Cond.methodLink RX0 75 yX0_isLost ∈ lw_good := z_in (l := tables_1_3) (i := 52) rfl z_tb_3 rfl
theorem w_274 : Cond.code yX0_lostMen cX0_lostMen 4 (some .int) ∈ lw_good := z_in (l := tables_1_3) (i := 51) rfl z_tb_3 rfl
theorem w_275 : Cond.instanceMethod yX0_lostMen ∈ lw_good := z_in (l := tables_1_3) (i := 49) rfl z_tb_3 rfl
theorem w_276 : Cond.selects RX0 yX0_lostMen yX0_lostMen ∈ lw_good := z_in (l := tables_1_3) (i := 50) rfl z_tb_3 rfl
theorem w_277 : Cond.methodLink RX9 182 yX0_lostMen ∈ lw_good := z_in (l := tables_1_3) (i := 48) rfl z_tb_3 rfl
theorem w_278 : Cond.code yX0_changeTie cX0_changeTie 2 none ∈ lw_good := z_in (l := tables_1_3) (i := 61) rfl z_tb_3 rfl
theorem w_279 : Cond.instanceMethod yX0_changeTie ∈ lw_good := z_in (l := tables_1_3) (i := 59) rfl z_tb_3 rfl
theorem w_280 : Cond.selects RX0 yX0_changeTie yX0_changeTie ∈ lw_good := z_in (l := tables_1_3) (i := 60) rfl z_tb_3 rfl
theorem w_281 : Cond.methodLink RX9 186 yX0_changeTie ∈ lw_good := z_in (l := tables_1_3) (i := 58) rfl z_tb_3 rfl
theorem w_282 : Cond.constant RJ6 265 (1431655765) ∈ lw_good := z_in (l := tables_1_3) (i := 69) rfl z_tb_3 rfl
theorem w_283 : Cond.constant RJ6 266 (858993459) ∈ lw_good := z_in (l := tables_1_3) (i := 70) rfl z_tb_3 rfl
theorem w_284 : Cond.constant RJ6 267 (252645135) ∈ lw_good := z_in (l := tables_1_3) (i := 71) rfl z_tb_3 rfl
theorem w_285 : Cond.methodLink RX0 59 yJ6_bitCount_0f7a4 ∈ lw_good := z_in (l := tables_1_3) (i := 66) rfl z_tb_3 rfl
theorem w_286 : Cond.initialized RJ6 ∈ lw_good := z_in (l := tables_1_1) (i := 18) rfl z_tb_1 rfl
theorem w_287 : Cond.code yJ6_bitCount_0f7a4 cJ6_bitCount_0f7a4 1 (some .int) ∈ lw_good := z_in (l := tables_1_3) (i := 68) rfl z_tb_3 rfl
theorem w_288 : Cond.static yJ6_bitCount_0f7a4 ∈ lw_good := z_in (l := tables_1_3) (i := 67) rfl z_tb_3 rfl
theorem w_289 : Cond.code yX0_tiedMen cX0_tiedMen 1 (some .int) ∈ lw_good := z_in (l := tables_1_3) (i := 65) rfl z_tb_3 rfl
theorem w_290 : Cond.instanceMethod yX0_tiedMen ∈ lw_good := z_in (l := tables_1_3) (i := 63) rfl z_tb_3 rfl
theorem w_291 : Cond.selects RX0 yX0_tiedMen yX0_tiedMen ∈ lw_good := z_in (l := tables_1_3) (i := 64) rfl z_tb_3 rfl
theorem w_292 : Cond.methodLink RX9 189 yX0_tiedMen ∈ lw_good := z_in (l := tables_1_3) (i := 62) rfl z_tb_3 rfl
theorem w_293 : Cond.code yX4_takeInto cX4_takeInto 2 none ∈ lw_good := z_in (l := tables_1_3) (i := 83) rfl z_tb_3 rfl
theorem w_294 : Cond.instanceMethod yX4_takeInto ∈ lw_good := z_in (l := tables_1_3) (i := 81) rfl z_tb_3 rfl
theorem w_295 : Cond.selects RX4 yX4_takeInto yX4_takeInto ∈ lw_good := z_in (l := tables_1_3) (i := 82) rfl z_tb_3 rfl
theorem w_296 : Cond.methodLink RX9 196 yX4_takeInto ∈ lw_good := z_in (l := tables_1_3) (i := 80) rfl z_tb_3 rfl
theorem w_297 : Cond.methodLink RX9 199 yX6_add ∈ lw_good := z_in (l := tables_1_3) (i := 88) rfl z_tb_3 rfl
theorem w_298 : Cond.fieldLink RX9 203 RX6 "turn" "[I" ∈ lw_good := z_in (l := tables_1_1) (i := 111) rfl z_tb_1 rfl
theorem w_299 : Cond.fieldLink RX9 206 RX6 "steps" "[I" ∈ lw_good := z_in (l := tables_1_1) (i := 114) rfl z_tb_1 rfl
theorem w_300 : Cond.methodLink RX9 216 yX0_pullOn ∈ lw_good := z_in (l := tables_1_3) (i := 101) rfl z_tb_3 rfl
theorem w_301 : Cond.fieldLink RX9 224 RX0 "given" "I" ∈ lw_good := z_in (l := tables_1_1) (i := 93) rfl z_tb_1 rfl
theorem w_302 : Cond.methodLink RX9 289 yX8_ordered ∈ lw_good := z_in (l := tables_1_3) (i := 102) rfl z_tb_3 rfl
theorem w_303 : Cond.code yX9_spotAfter cX9_spotAfter 6 (some .int) ∈ lw_good := z_in (l := tables_1_3) (i := 100) rfl z_tb_3 rfl
theorem w_304 : Cond.instanceMethod yX9_spotAfter ∈ lw_good := z_in (l := tables_1_3) (i := 99) rfl z_tb_3 rfl
theorem w_305 : Cond.selects RX9 yX9_spotAfter yX9_spotAfter ∈ lw_good := z_in (l := k2_sels lw_privs) (i := 8) rfl z_tblS rfl
theorem w_306 : Cond.methodLink RX9 209 yX9_spotAfter ∈ lw_good := z_in (l := tables_1_3) (i := 97) rfl z_tb_3 rfl
theorem w_307 : Cond.fieldLink RX9 34 RX9 "trial" "LBootsTurnHome$Column;" ∈ lw_good := z_in (l := tables_1_2) (i := 112) rfl z_tb_2 rfl
theorem w_308 : Cond.fieldLink RX9 66 RX9 "guide" "LBootsTurnHome$Guide;" ∈ lw_good := z_in (l := tables_1_2) (i := 117) rfl z_tb_2 rfl
theorem w_309 : Cond.fieldLink RX2 15 RX2 "goal" "I" ∈ lw_good := z_in (l := tables_1_1) (i := 196) rfl z_tb_1 rfl
theorem w_310 : Cond.fieldLink RX2 19 RX2 "pull" "I" ∈ lw_good := z_in (l := tables_1_1) (i := 197) rfl z_tb_1 rfl
theorem w_311 : Cond.fieldLink RX2 22 RX2 "kind" "I" ∈ lw_good := z_in (l := tables_1_1) (i := 198) rfl z_tb_1 rfl
theorem w_312 : Cond.initialized RX2 ∈ lw_good := z_in (l := tables_1_1) (i := 9) rfl z_tb_1 rfl
theorem w_313 : Cond.code yX2_setOut cX2_setOut 4 none ∈ lw_good := z_in (l := tables_1_3) (i := 114) rfl z_tb_3 rfl
theorem w_314 : Cond.instanceMethod yX2_setOut ∈ lw_good := z_in (l := tables_1_3) (i := 112) rfl z_tb_3 rfl
theorem w_315 : Cond.selects RX2 yX2_setOut yX2_setOut ∈ lw_good := z_in (l := tables_1_3) (i := 113) rfl z_tb_3 rfl
theorem w_316 : Cond.methodLink RX9 220 yX2_setOut ∈ lw_good := z_in (l := tables_1_3) (i := 111) rfl z_tb_3 rfl
theorem w_317 : Cond.methodLink RX2 29 yX8_cellOf ∈ lw_good := z_in (l := tables_1_3) (i := 123) rfl z_tb_3 rfl
theorem w_318 : Cond.methodLink RX2 35 yX8_apart ∈ lw_good := z_in (l := tables_1_3) (i := 124) rfl z_tb_3 rfl
theorem w_319 : Cond.methodLink RX2 39 yX8_ordered ∈ lw_good := z_in (l := tables_1_3) (i := 125) rfl z_tb_3 rfl
theorem w_320 : Cond.code yX2_leads cX2_leads 9 (some .boolean) ∈ lw_good := z_in (l := tables_1_3) (i := 122) rfl z_tb_3 rfl
theorem w_321 : Cond.instanceMethod yX2_leads ∈ lw_good := z_in (l := tables_1_3) (i := 121) rfl z_tb_3 rfl
theorem w_322 : Cond.selects RX2 yX2_leads yX2_leads ∈ lw_good := z_in (l := k2_sels lw_privs) (i := 9) rfl z_tblS rfl
theorem w_323 : Cond.methodLink RX2 25 yX2_leads ∈ lw_good := z_in (l := tables_1_3) (i := 119) rfl z_tb_3 rfl
theorem w_324 : Cond.code yX2_fewestOrders cX2_fewestOrders 4 (some .int) ∈ lw_good := z_in (l := tables_1_3) (i := 118) rfl z_tb_3 rfl
theorem w_325 : Cond.instanceMethod yX2_fewestOrders ∈ lw_good := z_in (l := tables_1_3) (i := 116) rfl z_tb_3 rfl
theorem w_326 : Cond.selects RX2 yX2_fewestOrders yX2_fewestOrders ∈ lw_good := z_in (l := tables_1_3) (i := 117) rfl z_tb_3 rfl
theorem w_327 : Cond.methodLink RX9 227 yX2_fewestOrders ∈ lw_good := z_in (l := tables_1_3) (i := 115) rfl z_tb_3 rfl
theorem w_328 : Cond.fieldLink RX9 230 RX2 "found" "[I" ∈ lw_good := z_in (l := tables_1_1) (i := 195) rfl z_tb_1 rfl
theorem w_329 : Cond.fieldLink RX9 73 RX9 "dealer" "LBootsTurnHome$Dealer;" ∈ lw_good := z_in (l := tables_1_2) (i := 118) rfl z_tb_2 rfl
theorem w_330 : Cond.fieldLink RX1 18 RX1 "most" "I" ∈ lw_good := z_in (l := tables_1_1) (i := 216) rfl z_tb_1 rfl
theorem w_331 : Cond.fieldLink RX1 26 RX3 "men" "I" ∈ lw_good := z_in (l := tables_1_1) (i := 44) rfl z_tb_1 rfl
theorem w_332 : Cond.fieldLink RX1 37 RX3 "left" "[I" ∈ lw_good := z_in (l := tables_1_1) (i := 55) rfl z_tb_1 rfl
theorem w_333 : Cond.fieldLink RX1 40 RX0 "right" "[I" ∈ lw_good := z_in (l := tables_1_1) (i := 88) rfl z_tb_1 rfl
theorem w_334 : Cond.initialized RX1 ∈ lw_good := z_in (l := tables_1_1) (i := 10) rfl z_tb_1 rfl
theorem w_335 : Cond.code yX1_dealTo cX1_dealTo 8 none ∈ lw_good := z_in (l := tables_1_3) (i := 137) rfl z_tb_3 rfl
theorem w_336 : Cond.instanceMethod yX1_dealTo ∈ lw_good := z_in (l := tables_1_3) (i := 136) rfl z_tb_3 rfl
theorem w_337 : Cond.selects RX1 yX1_dealTo yX1_dealTo ∈ lw_good := z_in (l := k2_sels lw_privs) (i := 10) rfl z_tblS rfl
theorem w_338 : Cond.methodLink RX1 22 yX1_dealTo ∈ lw_good := z_in (l := tables_1_3) (i := 134) rfl z_tb_3 rfl
theorem w_339 : Cond.methodLink RX1 31 arraycopyName ∈ lw_good := z_in (l := tables_1_3) (i := 138) rfl z_tb_3 rfl
theorem w_340 : Cond.code yX1_deal cX1_deal 3 none ∈ lw_good := z_in (l := tables_1_3) (i := 133) rfl z_tb_3 rfl
theorem w_341 : Cond.instanceMethod yX1_deal ∈ lw_good := z_in (l := tables_1_3) (i := 131) rfl z_tb_3 rfl
theorem w_342 : Cond.selects RX1 yX1_deal yX1_deal ∈ lw_good := z_in (l := tables_1_3) (i := 132) rfl z_tb_3 rfl
theorem w_343 : Cond.methodLink RX9 233 yX1_deal ∈ lw_good := z_in (l := tables_1_3) (i := 130) rfl z_tb_3 rfl
theorem w_344 : Cond.fieldLink RX9 240 RX1 "best" "[I" ∈ lw_good := z_in (l := tables_1_1) (i := 215) rfl z_tb_1 rfl
theorem w_345 : Cond.fieldLink RX9 237 RX1 "most" "I" ∈ lw_good := z_in (l := tables_1_1) (i := 217) rfl z_tb_1 rfl
theorem w_346 : Cond.methodLink RX9 243 yX8_cellOf ∈ lw_good := z_in (l := tables_1_3) (i := 144) rfl z_tb_3 rfl
theorem w_347 : Cond.fieldLink RX7 21 RX7 "held" "I" ∈ lw_good := z_in (l := tables_1_1) (i := 157) rfl z_tb_1 rfl
theorem w_348 : Cond.initialized RX7 ∈ lw_good := z_in (l := tables_1_1) (i := 6) rfl z_tb_1 rfl
theorem w_349 : Cond.code yX7_add cX7_add 4 (some .boolean) ∈ lw_good := z_in (l := tables_1_3) (i := 152) rfl z_tb_3 rfl
theorem w_350 : Cond.instanceMethod yX7_add ∈ lw_good := z_in (l := tables_1_3) (i := 150) rfl z_tb_3 rfl
theorem w_351 : Cond.selects RX7 yX7_add yX7_add ∈ lw_good := z_in (l := tables_1_3) (i := 151) rfl z_tb_3 rfl
theorem w_352 : Cond.methodLink RX9 246 yX7_add ∈ lw_good := z_in (l := tables_1_3) (i := 149) rfl z_tb_3 rfl
theorem w_353 : Cond.fieldLink RX7 25 RX6 "length" "I" ∈ lw_good := z_in (l := tables_1_1) (i := 116) rfl z_tb_1 rfl
theorem w_354 : Cond.fieldLink RX7 30 RX6 "turn" "[I" ∈ lw_good := z_in (l := tables_1_1) (i := 110) rfl z_tb_1 rfl
theorem w_355 : Cond.fieldLink RX7 33 RX6 "steps" "[I" ∈ lw_good := z_in (l := tables_1_1) (i := 113) rfl z_tb_1 rfl
theorem w_356 : Cond.methodLink RX7 38 yX8_ordered ∈ lw_good := z_in (l := tables_1_3) (i := 165) rfl z_tb_3 rfl
theorem w_357 : Cond.methodLink RX7 42 yX8_lookOf ∈ lw_good := z_in (l := tables_1_3) (i := 166) rfl z_tb_3 rfl
theorem w_358 : Cond.code yX7_allows cX7_allows 5 (some .boolean) ∈ lw_good := z_in (l := tables_1_3) (i := 170) rfl z_tb_3 rfl
theorem w_359 : Cond.instanceMethod yX7_allows ∈ lw_good := z_in (l := tables_1_3) (i := 169) rfl z_tb_3 rfl
theorem w_360 : Cond.selects RX7 yX7_allows yX7_allows ∈ lw_good := z_in (l := k2_sels lw_privs) (i := 11) rfl z_tblS rfl
theorem w_361 : Cond.methodLink RX7 46 yX7_allows ∈ lw_good := z_in (l := tables_1_3) (i := 167) rfl z_tb_3 rfl
theorem w_362 : Cond.code yX7_fits cX7_fits 7 (some .boolean) ∈ lw_good := z_in (l := tables_1_3) (i := 164) rfl z_tb_3 rfl
theorem w_363 : Cond.instanceMethod yX7_fits ∈ lw_good := z_in (l := tables_1_3) (i := 162) rfl z_tb_3 rfl
theorem w_364 : Cond.selects RX7 yX7_fits yX7_fits ∈ lw_good := z_in (l := tables_1_3) (i := 163) rfl z_tb_3 rfl
theorem w_365 : Cond.methodLink RX9 248 yX7_fits ∈ lw_good := z_in (l := tables_1_3) (i := 161) rfl z_tb_3 rfl
theorem w_366 : Cond.methodLink RX9 256 yJ6_bitCount_0f7a4 ∈ lw_good := z_in (l := tables_1_3) (i := 176) rfl z_tb_3 rfl
theorem w_367 : Cond.methodLink RX9 252 yX8_halted ∈ lw_good := z_in (l := tables_1_3) (i := 175) rfl z_tb_3 rfl
theorem w_368 : Cond.methodLink RX0 86 yX8_lookOf ∈ lw_good := z_in (l := tables_1_3) (i := 185) rfl z_tb_3 rfl
theorem w_369 : Cond.code yX0_menLooking cX0_menLooking 5 (some .int) ∈ lw_good := z_in (l := tables_1_3) (i := 184) rfl z_tb_3 rfl
theorem w_370 : Cond.instanceMethod yX0_menLooking ∈ lw_good := z_in (l := tables_1_3) (i := 182) rfl z_tb_3 rfl
theorem w_371 : Cond.selects RX0 yX0_menLooking yX0_menLooking ∈ lw_good := z_in (l := tables_1_3) (i := 183) rfl z_tb_3 rfl
theorem w_372 : Cond.methodLink RX9 261 yX0_menLooking ∈ lw_good := z_in (l := tables_1_3) (i := 181) rfl z_tb_3 rfl
theorem w_373 : Cond.methodLink RX9 293 Lib.Math.max.name ∈ lw_good := z_in (l := tables_1_3) (i := 194) rfl z_tb_3 rfl
theorem w_374 : Cond.code yX9_spotBehindStorm cX9_spotBehindStorm 6 (some .int) ∈ lw_good := z_in (l := tables_1_3) (i := 193) rfl z_tb_3 rfl
theorem w_375 : Cond.instanceMethod yX9_spotBehindStorm ∈ lw_good := z_in (l := tables_1_3) (i := 192) rfl z_tb_3 rfl
theorem w_376 : Cond.selects RX9 yX9_spotBehindStorm yX9_spotBehindStorm ∈ lw_good := z_in (l := k2_sels lw_privs) (i := 12) rfl z_tblS rfl
theorem w_377 : Cond.methodLink RX9 264 yX9_spotBehindStorm ∈ lw_good := z_in (l := tables_1_3) (i := 190) rfl z_tb_3 rfl
theorem w_378 : Cond.code yX9_weightOf cX9_weightOf 5 (some .int) ∈ lw_good := z_in (l := tables_1_3) (i := 198) rfl z_tb_3 rfl
theorem w_379 : Cond.instanceMethod yX9_weightOf ∈ lw_good := z_in (l := tables_1_3) (i := 197) rfl z_tb_3 rfl
theorem w_380 : Cond.selects RX9 yX9_weightOf yX9_weightOf ∈ lw_good := z_in (l := k2_sels lw_privs) (i := 13) rfl z_tblS rfl
theorem w_381 : Cond.methodLink RX9 267 yX9_weightOf ∈ lw_good := z_in (l := tables_1_3) (i := 195) rfl z_tb_3 rfl
theorem w_382 : Cond.methodLink RX9 270 yX9_sharedDivisor ∈ lw_good := z_in (l := tables_1_3) (i := 199) rfl z_tb_3 rfl
theorem w_383 : Cond.code yX9_sharedDivisor cX9_sharedDivisor 6 (some .int) ∈ lw_good := z_in (l := tables_1_3) (i := 201) rfl z_tb_3 rfl
theorem w_384 : Cond.static yX9_sharedDivisor ∈ lw_good := z_in (l := tables_1_3) (i := 200) rfl z_tb_3 rfl
theorem w_385 : Cond.constantLong RX9 298 (7919) ∈ lw_good := z_in (l := tables_1_3) (i := 209) rfl z_tb_3 rfl
theorem w_386 : Cond.constantLong RX9 300 (6151) ∈ lw_good := z_in (l := tables_1_3) (i := 210) rfl z_tb_3 rfl
theorem w_387 : Cond.constantLong RX9 302 (65521) ∈ lw_good := z_in (l := tables_1_3) (i := 211) rfl z_tb_3 rfl
theorem w_388 : Cond.constantLong RX9 304 (8) ∈ lw_good := z_in (l := tables_1_3) (i := 212) rfl z_tb_3 rfl
theorem w_389 : Cond.methodLink RX9 273 yX9_drawOf ∈ lw_good := z_in (l := tables_1_3) (i := 206) rfl z_tb_3 rfl
theorem w_390 : Cond.code yX9_drawOf cX9_drawOf 4 (some .int) ∈ lw_good := z_in (l := tables_1_3) (i := 208) rfl z_tb_3 rfl
theorem w_391 : Cond.static yX9_drawOf ∈ lw_good := z_in (l := tables_1_3) (i := 207) rfl z_tb_3 rfl
theorem w_392 : Cond.methodLink RX0 83 yX0_isAtHome ∈ lw_good := z_in (l := tables_1_3) (i := 217) rfl z_tb_3 rfl
theorem w_393 : Cond.code yX0_isAnybodyAtHome cX0_isAnybodyAtHome 3 (some .boolean) ∈ lw_good := z_in (l := tables_1_3) (i := 216) rfl z_tb_3 rfl
theorem w_394 : Cond.instanceMethod yX0_isAnybodyAtHome ∈ lw_good := z_in (l := tables_1_3) (i := 214) rfl z_tb_3 rfl
theorem w_395 : Cond.selects RX0 yX0_isAnybodyAtHome yX0_isAnybodyAtHome ∈ lw_good := z_in (l := tables_1_3) (i := 215) rfl z_tb_3 rfl
theorem w_396 : Cond.methodLink RX9 276 yX0_isAnybodyAtHome ∈ lw_good := z_in (l := tables_1_3) (i := 213) rfl z_tb_3 rfl
theorem w_397 : Cond.constantLong RX10 64 (32) ∈ lw_good := z_in (l := tables_1_4) (i := 70) rfl z_tb_4 rfl
theorem w_398 : Cond.constantLong RX10 66 (126) ∈ lw_good := z_in (l := tables_1_4) (i := 71) rfl z_tb_4 rfl
theorem w_399 : Cond.methodLink RX10 60 yX10_in ∈ lw_good := z_in (l := tables_1_4) (i := 72) rfl z_tb_4 rfl
theorem w_400 : Cond.initialized RX10 ∈ lw_good := z_in (l := tables_1_1) (i := 17) rfl z_tb_1 rfl
theorem w_401 : Cond.code yX10_in cX10_in 6 (some .boolean) ∈ lw_good := z_in (l := tables_1_4) (i := 74) rfl z_tb_4 rfl
theorem w_402 : Cond.static yX10_in ∈ lw_good := z_in (l := tables_1_4) (i := 73) rfl z_tb_4 rfl
theorem w_403 : Cond.fieldLink RX10 68 RX10 "length" "I" ∈ lw_good := z_in (l := tables_1_4) (i := 12) rfl z_tb_4 rfl
theorem w_404 : Cond.fieldLink RX10 16 RX10 "text" "[B" ∈ lw_good := z_in (l := tables_1_4) (i := 13) rfl z_tb_4 rfl
theorem w_405 : Cond.fieldLink RX10 7 RX10 "land" "[I" ∈ lw_good := z_in (l := tables_1_4) (i := 8) rfl z_tb_4 rfl
theorem w_406 : Cond.fieldLink RX10 71 RX10 "at" "I" ∈ lw_good := z_in (l := tables_1_4) (i := 14) rfl z_tb_4 rfl
theorem w_407 : Cond.fieldLink RX10 81 RX10 "isWrong" "Z" ∈ lw_good := z_in (l := tables_1_4) (i := 16) rfl z_tb_4 rfl
theorem w_408 : Cond.fieldLink RX10 92 RX10 "begin" "I" ∈ lw_good := z_in (l := tables_1_4) (i := 15) rfl z_tb_4 rfl
theorem w_409 : Cond.code yX10_next cX10_next 1 (some .int) ∈ lw_good := z_in (l := tables_1_4) (i := 90) rfl z_tb_4 rfl
theorem w_410 : Cond.instanceMethod yX10_next ∈ lw_good := z_in (l := tables_1_4) (i := 89) rfl z_tb_4 rfl
theorem w_411 : Cond.selects RX10 yX10_next yX10_next ∈ lw_good := z_in (l := k2_sels lw_privs) (i := 18) rfl z_tblS rfl
theorem w_412 : Cond.methodLink RX10 74 yX10_next ∈ lw_good := z_in (l := tables_1_4) (i := 87) rfl z_tb_4 rfl
theorem w_413 : Cond.constantLong RX10 77 (48) ∈ lw_good := z_in (l := tables_1_4) (i := 99) rfl z_tb_4 rfl
theorem w_414 : Cond.constantLong RX10 79 (57) ∈ lw_good := z_in (l := tables_1_4) (i := 100) rfl z_tb_4 rfl
theorem w_415 : Cond.code yX10_number cX10_number 5 (some .int) ∈ lw_good := z_in (l := tables_1_4) (i := 98) rfl z_tb_4 rfl
theorem w_416 : Cond.instanceMethod yX10_number ∈ lw_good := z_in (l := tables_1_4) (i := 97) rfl z_tb_4 rfl
theorem w_417 : Cond.selects RX10 yX10_number yX10_number ∈ lw_good := z_in (l := k2_sels lw_privs) (i := 20) rfl z_tblS rfl
theorem w_418 : Cond.methodLink RX10 85 yX10_number ∈ lw_good := z_in (l := tables_1_4) (i := 95) rfl z_tb_4 rfl
theorem w_419 : Cond.code yX10_more cX10_more 3 (some .int) ∈ lw_good := z_in (l := tables_1_4) (i := 104) rfl z_tb_4 rfl
theorem w_420 : Cond.instanceMethod yX10_more ∈ lw_good := z_in (l := tables_1_4) (i := 103) rfl z_tb_4 rfl
theorem w_421 : Cond.selects RX10 yX10_more yX10_more ∈ lw_good := z_in (l := k2_sels lw_privs) (i := 21) rfl z_tblS rfl
theorem w_422 : Cond.methodLink RX10 89 yX10_more ∈ lw_good := z_in (l := tables_1_4) (i := 101) rfl z_tb_4 rfl
theorem w_423 : Cond.code yX10_puts cX10_puts 8 none ∈ lw_good := z_in (l := tables_1_3) (i := 239) rfl z_tb_3 rfl
theorem w_424 : Cond.instanceMethod yX10_puts ∈ lw_good := z_in (l := tables_1_3) (i := 238) rfl z_tb_3 rfl
theorem w_425 : Cond.selects RX10 yX10_puts yX10_puts ∈ lw_good := z_in (l := k2_sels lw_privs) (i := 14) rfl z_tblS rfl
theorem w_426 : Cond.methodLink RX10 35 yX10_puts ∈ lw_good := z_in (l := tables_1_3) (i := 236) rfl z_tb_3 rfl
theorem w_427 : Cond.code yX10_tells cX10_tells 5 none ∈ lw_good := z_in (l := tables_1_4) (i := 3) rfl z_tb_4 rfl
theorem w_428 : Cond.instanceMethod yX10_tells ∈ lw_good := z_in (l := tables_1_4) (i := 2) rfl z_tb_4 rfl
theorem w_429 : Cond.selects RX10 yX10_tells yX10_tells ∈ lw_good := z_in (l := k2_sels lw_privs) (i := 15) rfl z_tblS rfl
theorem w_430 : Cond.methodLink RX10 39 yX10_tells ∈ lw_good := z_in (l := tables_1_4) (i := 0) rfl z_tb_4 rfl
theorem w_431 : Cond.code yX10_item cX10_item 9 none ∈ lw_good := z_in (l := tables_1_4) (i := 94) rfl z_tb_4 rfl
theorem w_432 : Cond.instanceMethod yX10_item ∈ lw_good := z_in (l := tables_1_4) (i := 93) rfl z_tb_4 rfl
theorem w_433 : Cond.selects RX10 yX10_item yX10_item ∈ lw_good := z_in (l := k2_sels lw_privs) (i := 19) rfl z_tblS rfl
theorem w_434 : Cond.methodLink RX10 95 yX10_item ∈ lw_good := z_in (l := tables_1_4) (i := 91) rfl z_tb_4 rfl
theorem w_435 : Cond.code yX10_reads cX10_reads 2 (some .boolean) ∈ lw_good := z_in (l := tables_1_4) (i := 86) rfl z_tb_4 rfl
theorem w_436 : Cond.instanceMethod yX10_reads ∈ lw_good := z_in (l := tables_1_4) (i := 85) rfl z_tb_4 rfl
theorem w_437 : Cond.selects RX10 yX10_reads yX10_reads ∈ lw_good := z_in (l := k2_sels lw_privs) (i := 17) rfl z_tblS rfl
theorem w_438 : Cond.methodLink RX10 99 yX10_reads ∈ lw_good := z_in (l := tables_1_4) (i := 83) rfl z_tb_4 rfl
theorem w_439 : Cond.fieldLink RX10 13 RX10 "slot" "[I" ∈ lw_good := z_in (l := tables_1_4) (i := 9) rfl z_tb_4 rfl
theorem w_440 : Cond.fieldLink RX10 46 RX10 "acts" "I" ∈ lw_good := z_in (l := tables_1_4) (i := 10) rfl z_tb_4 rfl
theorem w_441 : Cond.fieldLink RX10 50 RX10 "keeps" "I" ∈ lw_good := z_in (l := tables_1_4) (i := 11) rfl z_tb_4 rfl
theorem w_442 : Cond.fieldLink RX10 53 RX10 "seens" "I" ∈ lw_good := z_in (l := tables_1_4) (i := 17) rfl z_tb_4 rfl
theorem w_443 : Cond.code yX10_stands cX10_stands 2 none ∈ lw_good := z_in (l := tables_1_4) (i := 7) rfl z_tb_4 rfl
theorem w_444 : Cond.instanceMethod yX10_stands ∈ lw_good := z_in (l := tables_1_4) (i := 6) rfl z_tb_4 rfl
theorem w_445 : Cond.selects RX10 yX10_stands yX10_stands ∈ lw_good := z_in (l := k2_sels lw_privs) (i := 16) rfl z_tblS rfl
theorem w_446 : Cond.methodLink RX10 43 yX10_stands ∈ lw_good := z_in (l := tables_1_4) (i := 4) rfl z_tb_4 rfl
theorem w_447 : Cond.code yX10_men cX10_men 1 (some .int) ∈ lw_good := z_in (l := tables_1_4) (i := 112) rfl z_tb_4 rfl
theorem w_448 : Cond.instanceMethod yX10_men ∈ lw_good := z_in (l := tables_1_4) (i := 111) rfl z_tb_4 rfl
theorem w_449 : Cond.selects RX10 yX10_men yX10_men ∈ lw_good := z_in (l := k2_sels lw_privs) (i := 22) rfl z_tblS rfl
theorem w_450 : Cond.methodLink RX10 56 yX10_men ∈ lw_good := z_in (l := tables_1_4) (i := 109) rfl z_tb_4 rfl
theorem w_451 : Cond.code yX10_isMan cX10_isMan 2 (some .boolean) ∈ lw_good := z_in (l := tables_1_4) (i := 120) rfl z_tb_4 rfl
theorem w_452 : Cond.instanceMethod yX10_isMan ∈ lw_good := z_in (l := tables_1_4) (i := 119) rfl z_tb_4 rfl
theorem w_453 : Cond.selects RX10 yX10_isMan yX10_isMan ∈ lw_good := z_in (l := k2_sels lw_privs) (i := 23) rfl z_tblS rfl
theorem w_454 : Cond.methodLink RX10 113 yX10_isMan ∈ lw_good := z_in (l := tables_1_4) (i := 117) rfl z_tb_4 rfl
theorem w_455 : Cond.constantLong RX10 117 (8) ∈ lw_good := z_in (l := tables_1_4) (i := 121) rfl z_tb_4 rfl
theorem w_456 : Cond.code yX10_isHome cX10_isHome 4 (some .boolean) ∈ lw_good := z_in (l := tables_1_4) (i := 135) rfl z_tb_4 rfl
theorem w_457 : Cond.instanceMethod yX10_isHome ∈ lw_good := z_in (l := tables_1_4) (i := 134) rfl z_tb_4 rfl
theorem w_458 : Cond.selects RX10 yX10_isHome yX10_isHome ∈ lw_good := z_in (l := k2_sels lw_privs) (i := 25) rfl z_tblS rfl
theorem w_459 : Cond.methodLink RX10 119 yX10_isHome ∈ lw_good := z_in (l := tables_1_4) (i := 132) rfl z_tb_4 rfl
theorem w_460 : Cond.methodLink RX10 103 yX10_apart ∈ lw_good := z_in (l := tables_1_4) (i := 126) rfl z_tb_4 rfl
theorem w_461 : Cond.code yX10_apart cX10_apart 2 (some .int) ∈ lw_good := z_in (l := tables_1_4) (i := 128) rfl z_tb_4 rfl
theorem w_462 : Cond.static yX10_apart ∈ lw_good := z_in (l := tables_1_4) (i := 127) rfl z_tb_4 rfl
theorem w_463 : Cond.methodLink RX10 106 yX10_larger ∈ lw_good := z_in (l := tables_1_4) (i := 129) rfl z_tb_4 rfl
theorem w_464 : Cond.code yX10_larger cX10_larger 2 (some .int) ∈ lw_good := z_in (l := tables_1_4) (i := 131) rfl z_tb_4 rfl
theorem w_465 : Cond.static yX10_larger ∈ lw_good := z_in (l := tables_1_4) (i := 130) rfl z_tb_4 rfl
theorem w_466 : Cond.code yX10_isLost cX10_isLost 3 (some .boolean) ∈ lw_good := z_in (l := tables_1_4) (i := 125) rfl z_tb_4 rfl
theorem w_467 : Cond.instanceMethod yX10_isLost ∈ lw_good := z_in (l := tables_1_4) (i := 124) rfl z_tb_4 rfl
theorem w_468 : Cond.selects RX10 yX10_isLost yX10_isLost ∈ lw_good := z_in (l := k2_sels lw_privs) (i := 24) rfl z_tblS rfl
theorem w_469 : Cond.methodLink RX10 109 yX10_isLost ∈ lw_good := z_in (l := tables_1_4) (i := 122) rfl z_tb_4 rfl
theorem w_470 : Cond.constantLong RX10 122 (15) ∈ lw_good := z_in (l := tables_1_4) (i := 148) rfl z_tb_4 rfl
theorem w_471 : Cond.methodLink RX10 124 yX10_way ∈ lw_good := z_in (l := tables_1_4) (i := 149) rfl z_tb_4 rfl
theorem w_472 : Cond.code yX10_way cX10_way 6 (some .int) ∈ lw_good := z_in (l := tables_1_4) (i := 151) rfl z_tb_4 rfl
theorem w_473 : Cond.static yX10_way ∈ lw_good := z_in (l := tables_1_4) (i := 150) rfl z_tb_4 rfl
theorem w_474 : Cond.constantLong RX10 164 (7) ∈ lw_good := z_in (l := tables_1_4) (i := 159) rfl z_tb_4 rfl
theorem w_475 : Cond.constantLong RX10 166 (9) ∈ lw_good := z_in (l := tables_1_4) (i := 160) rfl z_tb_4 rfl
theorem w_476 : Cond.methodLink RX10 168 yX10_isOrder ∈ lw_good := z_in (l := tables_1_4) (i := 156) rfl z_tb_4 rfl
theorem w_477 : Cond.code yX10_isOrder cX10_isOrder 2 (some .boolean) ∈ lw_good := z_in (l := tables_1_4) (i := 158) rfl z_tb_4 rfl
theorem w_478 : Cond.static yX10_isOrder ∈ lw_good := z_in (l := tables_1_4) (i := 157) rfl z_tb_4 rfl
theorem w_479 : Cond.code yX10_copies cX10_copies 4 none ∈ lw_good := z_in (l := tables_1_4) (i := 168) rfl z_tb_4 rfl
theorem w_480 : Cond.instanceMethod yX10_copies ∈ lw_good := z_in (l := tables_1_4) (i := 167) rfl z_tb_4 rfl
theorem w_481 : Cond.selects RX10 yX10_copies yX10_copies ∈ lw_good := z_in (l := k2_sels lw_privs) (i := 27) rfl z_tblS rfl
theorem w_482 : Cond.methodLink RX10 161 yX10_copies ∈ lw_good := z_in (l := tables_1_4) (i := 165) rfl z_tb_4 rfl
theorem w_483 : Cond.code yX10_known cX10_known 2 none ∈ lw_good := z_in (l := tables_1_4) (i := 164) rfl z_tb_4 rfl
theorem w_484 : Cond.instanceMethod yX10_known ∈ lw_good := z_in (l := tables_1_4) (i := 163) rfl z_tb_4 rfl
theorem w_485 : Cond.selects RX10 yX10_known yX10_known ∈ lw_good := z_in (l := k2_sels lw_privs) (i := 26) rfl z_tblS rfl
theorem w_486 : Cond.methodLink RX10 171 yX10_known ∈ lw_good := z_in (l := tables_1_4) (i := 161) rfl z_tb_4 rfl
theorem w_487 : Cond.fieldLink RX10 135 RX10 "x" "I" ∈ lw_good := z_in (l := tables_1_4) (i := 21) rfl z_tb_4 rfl
theorem w_488 : Cond.fieldLink RX10 138 RX10 "y" "I" ∈ lw_good := z_in (l := tables_1_4) (i := 22) rfl z_tb_4 rfl
theorem w_489 : Cond.fieldLink RX10 128 RX10 "face" "I" ∈ lw_good := z_in (l := tables_1_4) (i := 23) rfl z_tb_4 rfl
theorem w_490 : Cond.fieldLink RX10 141 RX10 "given" "I" ∈ lw_good := z_in (l := tables_1_4) (i := 24) rfl z_tb_4 rfl
theorem w_491 : Cond.code yX10_picks cX10_picks 3 none ∈ lw_good := z_in (l := tables_1_4) (i := 176) rfl z_tb_4 rfl
theorem w_492 : Cond.instanceMethod yX10_picks ∈ lw_good := z_in (l := tables_1_4) (i := 175) rfl z_tb_4 rfl
theorem w_493 : Cond.selects RX10 yX10_picks yX10_picks ∈ lw_good := z_in (l := k2_sels lw_privs) (i := 29) rfl z_tblS rfl
theorem w_494 : Cond.methodLink RX10 155 yX10_picks ∈ lw_good := z_in (l := tables_1_4) (i := 173) rfl z_tb_4 rfl
theorem w_495 : Cond.constantLong RX10 131 (3) ∈ lw_good := z_in (l := tables_1_4) (i := 185) rfl z_tb_4 rfl
theorem w_496 : Cond.constantLong RX10 133 (5) ∈ lw_good := z_in (l := tables_1_4) (i := 186) rfl z_tb_4 rfl
theorem w_497 : Cond.code yX10_marches cX10_marches 6 none ∈ lw_good := z_in (l := tables_1_4) (i := 184) rfl z_tb_4 rfl
theorem w_498 : Cond.instanceMethod yX10_marches ∈ lw_good := z_in (l := tables_1_4) (i := 183) rfl z_tb_4 rfl
theorem w_499 : Cond.selects RX10 yX10_marches yX10_marches ∈ lw_good := z_in (l := k2_sels lw_privs) (i := 31) rfl z_tblS rfl
theorem w_500 : Cond.methodLink RX10 144 yX10_marches ∈ lw_good := z_in (l := tables_1_4) (i := 181) rfl z_tb_4 rfl
theorem w_501 : Cond.methodLink RX10 148 yX10_has ∈ lw_good := z_in (l := tables_1_4) (i := 187) rfl z_tb_4 rfl
theorem w_502 : Cond.code yX10_has cX10_has 2 (some .boolean) ∈ lw_good := z_in (l := tables_1_4) (i := 189) rfl z_tb_4 rfl
theorem w_503 : Cond.static yX10_has ∈ lw_good := z_in (l := tables_1_4) (i := 188) rfl z_tb_4 rfl
theorem w_504 : Cond.code yX10_halts cX10_halts 9 none ∈ lw_good := z_in (l := tables_1_4) (i := 193) rfl z_tb_4 rfl
theorem w_505 : Cond.instanceMethod yX10_halts ∈ lw_good := z_in (l := tables_1_4) (i := 192) rfl z_tb_4 rfl
theorem w_506 : Cond.selects RX10 yX10_halts yX10_halts ∈ lw_good := z_in (l := k2_sels lw_privs) (i := 32) rfl z_tblS rfl
theorem w_507 : Cond.methodLink RX10 151 yX10_halts ∈ lw_good := z_in (l := tables_1_4) (i := 190) rfl z_tb_4 rfl
theorem w_508 : Cond.code yX10_goes cX10_goes 6 none ∈ lw_good := z_in (l := tables_1_4) (i := 180) rfl z_tb_4 rfl
theorem w_509 : Cond.instanceMethod yX10_goes ∈ lw_good := z_in (l := tables_1_4) (i := 179) rfl z_tb_4 rfl
theorem w_510 : Cond.selects RX10 yX10_goes yX10_goes ∈ lw_good := z_in (l := k2_sels lw_privs) (i := 30) rfl z_tblS rfl
theorem w_511 : Cond.methodLink RX10 158 yX10_goes ∈ lw_good := z_in (l := tables_1_4) (i := 177) rfl z_tb_4 rfl
theorem w_512 : Cond.code yX10_orders cX10_orders 5 none ∈ lw_good := z_in (l := tables_1_4) (i := 172) rfl z_tb_4 rfl
theorem w_513 : Cond.instanceMethod yX10_orders ∈ lw_good := z_in (l := tables_1_4) (i := 171) rfl z_tb_4 rfl
theorem w_514 : Cond.selects RX10 yX10_orders yX10_orders ∈ lw_good := z_in (l := k2_sels lw_privs) (i := 28) rfl z_tblS rfl
theorem w_515 : Cond.methodLink RX10 174 yX10_orders ∈ lw_good := z_in (l := tables_1_4) (i := 169) rfl z_tb_4 rfl
theorem w_516 : Cond.code yX10_lost cX10_lost 4 (some .int) ∈ lw_good := z_in (l := tables_1_4) (i := 197) rfl z_tb_4 rfl
theorem w_517 : Cond.instanceMethod yX10_lost ∈ lw_good := z_in (l := tables_1_4) (i := 196) rfl z_tb_4 rfl
theorem w_518 : Cond.selects RX10 yX10_lost yX10_lost ∈ lw_good := z_in (l := k2_sels lw_privs) (i := 33) rfl z_tblS rfl
theorem w_519 : Cond.methodLink RX10 177 yX10_lost ∈ lw_good := z_in (l := tables_1_4) (i := 194) rfl z_tb_4 rfl
theorem w_520 : Cond.methodLink RX10 181 yX10_bits ∈ lw_good := z_in (l := tables_1_4) (i := 202) rfl z_tb_4 rfl
theorem w_521 : Cond.code yX10_bits cX10_bits 3 (some .int) ∈ lw_good := z_in (l := tables_1_4) (i := 204) rfl z_tb_4 rfl
theorem w_522 : Cond.static yX10_bits ∈ lw_good := z_in (l := tables_1_4) (i := 203) rfl z_tb_4 rfl
theorem w_523 : Cond.constantLong RX10 184 (2) ∈ lw_good := z_in (l := tables_1_4) (i := 225) rfl z_tb_4 rfl
theorem w_524 : Cond.code yX10_brings cX10_brings 10 (some .boolean) ∈ lw_good := z_in (l := tables_1_4) (i := 237) rfl z_tb_4 rfl
theorem w_525 : Cond.instanceMethod yX10_brings ∈ lw_good := z_in (l := tables_1_4) (i := 236) rfl z_tb_4 rfl
theorem w_526 : Cond.selects RX10 yX10_brings yX10_brings ∈ lw_good := z_in (l := k2_sels lw_privs) (i := 34) rfl z_tblS rfl
theorem w_527 : Cond.methodLink RX10 186 yX10_brings ∈ lw_good := z_in (l := tables_1_4) (i := 234) rfl z_tb_4 rfl
theorem w_528 : Cond.constantLong RX10 190 (-1) ∈ lw_good := z_in (l := tables_1_5) (i := 2) rfl z_tb_5 rfl
theorem w_529 : Cond.fieldLink RX10 29 RX10 "gets" "[I" ∈ lw_good := z_in (l := tables_1_4) (i := 25) rfl z_tb_4 rfl
theorem w_530 : Cond.fieldLink RX10 32 RX10 "best" "[I" ∈ lw_good := z_in (l := tables_1_4) (i := 26) rfl z_tb_4 rfl
theorem w_531 : Cond.code yX10_gives cX10_gives 7 (some .boolean) ∈ lw_good := z_in (l := tables_1_5) (i := 6) rfl z_tb_5 rfl
theorem w_532 : Cond.instanceMethod yX10_gives ∈ lw_good := z_in (l := tables_1_5) (i := 5) rfl z_tb_5 rfl
theorem w_533 : Cond.selects RX10 yX10_gives yX10_gives ∈ lw_good := z_in (l := k2_sels lw_privs) (i := 35) rfl z_tblS rfl
theorem w_534 : Cond.methodLink RX10 192 yX10_gives ∈ lw_good := z_in (l := tables_1_5) (i := 3) rfl z_tb_5 rfl
theorem w_535 : Cond.fieldLink RX10 20 RX10 "sawWho" "[I" ∈ lw_good := z_in (l := tables_1_4) (i := 18) rfl z_tb_4 rfl
theorem w_536 : Cond.fieldLink RX10 23 RX10 "sawTime" "[I" ∈ lw_good := z_in (l := tables_1_4) (i := 19) rfl z_tb_4 rfl
theorem w_537 : Cond.fieldLink RX10 26 RX10 "sawWay" "[I" ∈ lw_good := z_in (l := tables_1_4) (i := 20) rfl z_tb_4 rfl
theorem w_538 : Cond.code yX10_isSo cX10_isSo 7 (some .boolean) ∈ lw_good := z_in (l := tables_1_5) (i := 26) rfl z_tb_5 rfl
theorem w_539 : Cond.instanceMethod yX10_isSo ∈ lw_good := z_in (l := tables_1_5) (i := 25) rfl z_tb_5 rfl
theorem w_540 : Cond.selects RX10 yX10_isSo yX10_isSo ∈ lw_good := z_in (l := k2_sels lw_privs) (i := 36) rfl z_tblS rfl
theorem w_541 : Cond.methodLink RX10 195 yX10_isSo ∈ lw_good := z_in (l := tables_1_5) (i := 23) rfl z_tb_5 rfl
theorem w_542 : Cond.constantLong RX10 199 (10) ∈ lw_good := z_in (l := tables_1_5) (i := 39) rfl z_tb_5 rfl
theorem w_543 : Cond.constantLong RX10 201 (9999) ∈ lw_good := z_in (l := tables_1_5) (i := 44) rfl z_tb_5 rfl
theorem w_544 : Cond.constantLong RX10 203 (40) ∈ lw_good := z_in (l := tables_1_5) (i := 45) rfl z_tb_5 rfl
theorem w_545 : Cond.constantLong RX10 205 (7919) ∈ lw_good := z_in (l := tables_1_5) (i := 46) rfl z_tb_5 rfl
theorem w_546 : Cond.constantLong RX10 207 (6151) ∈ lw_good := z_in (l := tables_1_5) (i := 47) rfl z_tb_5 rfl
theorem w_547 : Cond.constantLong RX10 209 (65521) ∈ lw_good := z_in (l := tables_1_5) (i := 48) rfl z_tb_5 rfl
theorem w_548 : Cond.code yX9_write cX9_write 2 (some .int) ∈ lw_good := z_in (l := tables_1_2) (i := 148) rfl z_tb_2 rfl
theorem w_549 : Cond.instanceMethod yX9_write ∈ lw_good := z_in (l := tables_1_2) (i := 146) rfl z_tb_2 rfl
theorem w_550 : Cond.selects RX9 yX9_write yX9_write ∈ lw_good := z_in (l := tables_1_2) (i := 147) rfl z_tb_2 rfl
theorem w_551 : Cond.methodLink RL 13 yX9_write ∈ lw_good := z_in (l := tables_1_2) (i := 145) rfl z_tb_2 rfl
theorem w_552 : Cond.code yX10_write cX10_write 2 (some .int) ∈ lw_good := z_in (l := tables_1_4) (i := 69) rfl z_tb_4 rfl
theorem w_553 : Cond.instanceMethod yX10_write ∈ lw_good := z_in (l := tables_1_4) (i := 67) rfl z_tb_4 rfl
theorem w_554 : Cond.selects RX10 yX10_write yX10_write ∈ lw_good := z_in (l := tables_1_4) (i := 68) rfl z_tb_4 rfl
theorem w_555 : Cond.methodLink RL 17 yX10_write ∈ lw_good := z_in (l := tables_1_4) (i := 66) rfl z_tb_4 rfl
theorem w_556 : Cond.code yX9_wipe cX9_wipe 2 (some .int) ∈ lw_good := z_in (l := tables_1_2) (i := 152) rfl z_tb_2 rfl
theorem w_557 : Cond.instanceMethod yX9_wipe ∈ lw_good := z_in (l := tables_1_2) (i := 150) rfl z_tb_2 rfl
theorem w_558 : Cond.selects RX9 yX9_wipe yX9_wipe ∈ lw_good := z_in (l := tables_1_2) (i := 151) rfl z_tb_2 rfl
theorem w_559 : Cond.methodLink RL 18 yX9_wipe ∈ lw_good := z_in (l := tables_1_2) (i := 149) rfl z_tb_2 rfl
theorem w_560 : Cond.code yX10_wipe cX10_wipe 2 (some .int) ∈ lw_good := z_in (l := tables_1_4) (i := 78) rfl z_tb_4 rfl
theorem w_561 : Cond.instanceMethod yX10_wipe ∈ lw_good := z_in (l := tables_1_4) (i := 76) rfl z_tb_4 rfl
theorem w_562 : Cond.selects RX10 yX10_wipe yX10_wipe ∈ lw_good := z_in (l := tables_1_4) (i := 77) rfl z_tb_4 rfl
theorem w_563 : Cond.methodLink RL 22 yX10_wipe ∈ lw_good := z_in (l := tables_1_4) (i := 75) rfl z_tb_4 rfl
theorem w_564 : Cond.code yX9_fault cX9_fault 1 (some .int) ∈ lw_good := z_in (l := tables_1_2) (i := 156) rfl z_tb_2 rfl
theorem w_565 : Cond.instanceMethod yX9_fault ∈ lw_good := z_in (l := tables_1_2) (i := 154) rfl z_tb_2 rfl
theorem w_566 : Cond.selects RX9 yX9_fault yX9_fault ∈ lw_good := z_in (l := tables_1_2) (i := 155) rfl z_tb_2 rfl
theorem w_567 : Cond.methodLink RL 23 yX9_fault ∈ lw_good := z_in (l := tables_1_2) (i := 153) rfl z_tb_2 rfl
theorem w_568 : Cond.code yX10_fault cX10_fault 1 (some .int) ∈ lw_good := z_in (l := tables_1_4) (i := 82) rfl z_tb_4 rfl
theorem w_569 : Cond.instanceMethod yX10_fault ∈ lw_good := z_in (l := tables_1_4) (i := 80) rfl z_tb_4 rfl
theorem w_570 : Cond.selects RX10 yX10_fault yX10_fault ∈ lw_good := z_in (l := tables_1_4) (i := 81) rfl z_tb_4 rfl
theorem w_571 : Cond.methodLink RL 26 yX10_fault ∈ lw_good := z_in (l := tables_1_4) (i := 79) rfl z_tb_4 rfl
theorem w_572 : Cond.code yX9_lay cX9_lay 1 (some .int) ∈ lw_good := z_in (l := tables_1_2) (i := 160) rfl z_tb_2 rfl
theorem w_573 : Cond.instanceMethod yX9_lay ∈ lw_good := z_in (l := tables_1_2) (i := 158) rfl z_tb_2 rfl
theorem w_574 : Cond.selects RX9 yX9_lay yX9_lay ∈ lw_good := z_in (l := tables_1_2) (i := 159) rfl z_tb_2 rfl
theorem w_575 : Cond.methodLink RL 27 yX9_lay ∈ lw_good := z_in (l := tables_1_2) (i := 157) rfl z_tb_2 rfl
theorem w_576 : Cond.code yX10_lay cX10_lay 2 (some .int) ∈ lw_good := z_in (l := tables_1_4) (i := 108) rfl z_tb_4 rfl
theorem w_577 : Cond.instanceMethod yX10_lay ∈ lw_good := z_in (l := tables_1_4) (i := 106) rfl z_tb_4 rfl
theorem w_578 : Cond.selects RX10 yX10_lay yX10_lay ∈ lw_good := z_in (l := tables_1_4) (i := 107) rfl z_tb_4 rfl
theorem w_579 : Cond.methodLink RL 30 yX10_lay ∈ lw_good := z_in (l := tables_1_4) (i := 105) rfl z_tb_4 rfl
theorem w_580 : Cond.code yX9_man cX9_man 3 (some .int) ∈ lw_good := z_in (l := tables_1_2) (i := 168) rfl z_tb_2 rfl
theorem w_581 : Cond.instanceMethod yX9_man ∈ lw_good := z_in (l := tables_1_2) (i := 166) rfl z_tb_2 rfl
theorem w_582 : Cond.selects RX9 yX9_man yX9_man ∈ lw_good := z_in (l := tables_1_2) (i := 167) rfl z_tb_2 rfl
theorem w_583 : Cond.methodLink RL 31 yX9_man ∈ lw_good := z_in (l := tables_1_2) (i := 165) rfl z_tb_2 rfl
theorem w_584 : Cond.code yX10_man cX10_man 3 (some .int) ∈ lw_good := z_in (l := tables_1_4) (i := 116) rfl z_tb_4 rfl
theorem w_585 : Cond.instanceMethod yX10_man ∈ lw_good := z_in (l := tables_1_4) (i := 114) rfl z_tb_4 rfl
theorem w_586 : Cond.selects RX10 yX10_man yX10_man ∈ lw_good := z_in (l := tables_1_4) (i := 115) rfl z_tb_4 rfl
theorem w_587 : Cond.methodLink RL 35 yX10_man ∈ lw_good := z_in (l := tables_1_4) (i := 113) rfl z_tb_4 rfl
theorem w_588 : Cond.code yX9_home cX9_home 3 (some .int) ∈ lw_good := z_in (l := tables_1_2) (i := 214) rfl z_tb_2 rfl
theorem w_589 : Cond.instanceMethod yX9_home ∈ lw_good := z_in (l := tables_1_2) (i := 212) rfl z_tb_2 rfl
theorem w_590 : Cond.selects RX9 yX9_home yX9_home ∈ lw_good := z_in (l := tables_1_2) (i := 213) rfl z_tb_2 rfl
theorem w_591 : Cond.methodLink RL 36 yX9_home ∈ lw_good := z_in (l := tables_1_2) (i := 211) rfl z_tb_2 rfl
theorem w_592 : Cond.code yX10_home cX10_home 3 (some .int) ∈ lw_good := z_in (l := tables_1_4) (i := 139) rfl z_tb_4 rfl
theorem w_593 : Cond.instanceMethod yX10_home ∈ lw_good := z_in (l := tables_1_4) (i := 137) rfl z_tb_4 rfl
theorem w_594 : Cond.selects RX10 yX10_home yX10_home ∈ lw_good := z_in (l := tables_1_4) (i := 138) rfl z_tb_4 rfl
theorem w_595 : Cond.methodLink RL 39 yX10_home ∈ lw_good := z_in (l := tables_1_4) (i := 136) rfl z_tb_4 rfl
theorem w_596 : Cond.code yX9_told cX9_told 2 (some .int) ∈ lw_good := z_in (l := tables_1_2) (i := 220) rfl z_tb_2 rfl
theorem w_597 : Cond.instanceMethod yX9_told ∈ lw_good := z_in (l := tables_1_2) (i := 218) rfl z_tb_2 rfl
theorem w_598 : Cond.selects RX9 yX9_told yX9_told ∈ lw_good := z_in (l := tables_1_2) (i := 219) rfl z_tb_2 rfl
theorem w_599 : Cond.methodLink RL 40 yX9_told ∈ lw_good := z_in (l := tables_1_2) (i := 217) rfl z_tb_2 rfl
theorem w_600 : Cond.code yX10_told cX10_told 2 (some .int) ∈ lw_good := z_in (l := tables_1_4) (i := 143) rfl z_tb_4 rfl
theorem w_601 : Cond.instanceMethod yX10_told ∈ lw_good := z_in (l := tables_1_4) (i := 141) rfl z_tb_4 rfl
theorem w_602 : Cond.selects RX10 yX10_told yX10_told ∈ lw_good := z_in (l := tables_1_4) (i := 142) rfl z_tb_4 rfl
theorem w_603 : Cond.methodLink RL 43 yX10_told ∈ lw_good := z_in (l := tables_1_4) (i := 140) rfl z_tb_4 rfl
theorem w_604 : Cond.code yX9_toward cX9_toward 5 (some .int) ∈ lw_good := z_in (l := tables_1_2) (i := 228) rfl z_tb_2 rfl
theorem w_605 : Cond.instanceMethod yX9_toward ∈ lw_good := z_in (l := tables_1_2) (i := 226) rfl z_tb_2 rfl
theorem w_606 : Cond.selects RX9 yX9_toward yX9_toward ∈ lw_good := z_in (l := tables_1_2) (i := 227) rfl z_tb_2 rfl
theorem w_607 : Cond.methodLink RL 44 yX9_toward ∈ lw_good := z_in (l := tables_1_2) (i := 225) rfl z_tb_2 rfl
theorem w_608 : Cond.code yX10_toward cX10_toward 6 (some .int) ∈ lw_good := z_in (l := tables_1_4) (i := 147) rfl z_tb_4 rfl
theorem w_609 : Cond.instanceMethod yX10_toward ∈ lw_good := z_in (l := tables_1_4) (i := 145) rfl z_tb_4 rfl
theorem w_610 : Cond.selects RX10 yX10_toward yX10_toward ∈ lw_good := z_in (l := tables_1_4) (i := 146) rfl z_tb_4 rfl
theorem w_611 : Cond.methodLink RL 48 yX10_toward ∈ lw_good := z_in (l := tables_1_4) (i := 144) rfl z_tb_4 rfl
theorem w_612 : Cond.code yX9_order cX9_order 3 (some .int) ∈ lw_good := z_in (l := tables_1_2) (i := 237) rfl z_tb_2 rfl
theorem w_613 : Cond.instanceMethod yX9_order ∈ lw_good := z_in (l := tables_1_2) (i := 235) rfl z_tb_2 rfl
theorem w_614 : Cond.selects RX9 yX9_order yX9_order ∈ lw_good := z_in (l := tables_1_2) (i := 236) rfl z_tb_2 rfl
theorem w_615 : Cond.methodLink RL 49 yX9_order ∈ lw_good := z_in (l := tables_1_2) (i := 234) rfl z_tb_2 rfl
theorem w_616 : Cond.code yX10_order cX10_order 3 (some .int) ∈ lw_good := z_in (l := tables_1_4) (i := 155) rfl z_tb_4 rfl
theorem w_617 : Cond.instanceMethod yX10_order ∈ lw_good := z_in (l := tables_1_4) (i := 153) rfl z_tb_4 rfl
theorem w_618 : Cond.selects RX10 yX10_order yX10_order ∈ lw_good := z_in (l := tables_1_4) (i := 154) rfl z_tb_4 rfl
theorem w_619 : Cond.methodLink RL 52 yX10_order ∈ lw_good := z_in (l := tables_1_4) (i := 152) rfl z_tb_4 rfl
theorem w_620 : Cond.code yX9_swap cX9_swap 4 (some .int) ∈ lw_good := z_in (l := tables_1_3) (i := 75) rfl z_tb_3 rfl
theorem w_621 : Cond.instanceMethod yX9_swap ∈ lw_good := z_in (l := tables_1_3) (i := 73) rfl z_tb_3 rfl
theorem w_622 : Cond.selects RX9 yX9_swap yX9_swap ∈ lw_good := z_in (l := tables_1_3) (i := 74) rfl z_tb_3 rfl
theorem w_623 : Cond.methodLink RL 58 yX9_swap ∈ lw_good := z_in (l := tables_1_3) (i := 72) rfl z_tb_3 rfl
theorem w_624 : Cond.code yX10_swap cX10_swap 4 (some .int) ∈ lw_good := z_in (l := tables_1_4) (i := 208) rfl z_tb_4 rfl
theorem w_625 : Cond.instanceMethod yX10_swap ∈ lw_good := z_in (l := tables_1_4) (i := 206) rfl z_tb_4 rfl
theorem w_626 : Cond.selects RX10 yX10_swap yX10_swap ∈ lw_good := z_in (l := tables_1_4) (i := 207) rfl z_tb_4 rfl
theorem w_627 : Cond.methodLink RL 61 yX10_swap ∈ lw_good := z_in (l := tables_1_4) (i := 205) rfl z_tb_4 rfl
theorem w_628 : Cond.code yX9_undo cX9_undo 1 (some .int) ∈ lw_good := z_in (l := tables_1_3) (i := 79) rfl z_tb_3 rfl
theorem w_629 : Cond.instanceMethod yX9_undo ∈ lw_good := z_in (l := tables_1_3) (i := 77) rfl z_tb_3 rfl
theorem w_630 : Cond.selects RX9 yX9_undo yX9_undo ∈ lw_good := z_in (l := tables_1_3) (i := 78) rfl z_tb_3 rfl
theorem w_631 : Cond.methodLink RL 62 yX9_undo ∈ lw_good := z_in (l := tables_1_3) (i := 76) rfl z_tb_3 rfl
theorem w_632 : Cond.code yX10_undo cX10_undo 1 (some .int) ∈ lw_good := z_in (l := tables_1_4) (i := 212) rfl z_tb_4 rfl
theorem w_633 : Cond.instanceMethod yX10_undo ∈ lw_good := z_in (l := tables_1_4) (i := 210) rfl z_tb_4 rfl
theorem w_634 : Cond.selects RX10 yX10_undo yX10_undo ∈ lw_good := z_in (l := tables_1_4) (i := 211) rfl z_tb_4 rfl
theorem w_635 : Cond.methodLink RL 65 yX10_undo ∈ lw_good := z_in (l := tables_1_4) (i := 209) rfl z_tb_4 rfl
theorem w_636 : Cond.code yX9_tell cX9_tell 3 (some .int) ∈ lw_good := z_in (l := tables_1_3) (i := 87) rfl z_tb_3 rfl
theorem w_637 : Cond.instanceMethod yX9_tell ∈ lw_good := z_in (l := tables_1_3) (i := 85) rfl z_tb_3 rfl
theorem w_638 : Cond.selects RX9 yX9_tell yX9_tell ∈ lw_good := z_in (l := tables_1_3) (i := 86) rfl z_tb_3 rfl
theorem w_639 : Cond.methodLink RL 66 yX9_tell ∈ lw_good := z_in (l := tables_1_3) (i := 84) rfl z_tb_3 rfl
theorem w_640 : Cond.code yX10_tell cX10_tell 3 (some .int) ∈ lw_good := z_in (l := tables_1_4) (i := 216) rfl z_tb_4 rfl
theorem w_641 : Cond.instanceMethod yX10_tell ∈ lw_good := z_in (l := tables_1_4) (i := 214) rfl z_tb_4 rfl
theorem w_642 : Cond.selects RX10 yX10_tell yX10_tell ∈ lw_good := z_in (l := tables_1_4) (i := 215) rfl z_tb_4 rfl
theorem w_643 : Cond.methodLink RL 69 yX10_tell ∈ lw_good := z_in (l := tables_1_4) (i := 213) rfl z_tb_4 rfl
theorem w_644 : Cond.code yX9_noRow cX9_noRow 2 (some .int) ∈ lw_good := z_in (l := tables_1_3) (i := 92) rfl z_tb_3 rfl
theorem w_645 : Cond.instanceMethod yX9_noRow ∈ lw_good := z_in (l := tables_1_3) (i := 90) rfl z_tb_3 rfl
theorem w_646 : Cond.selects RX9 yX9_noRow yX9_noRow ∈ lw_good := z_in (l := tables_1_3) (i := 91) rfl z_tb_3 rfl
theorem w_647 : Cond.methodLink RL 70 yX9_noRow ∈ lw_good := z_in (l := tables_1_3) (i := 89) rfl z_tb_3 rfl
theorem w_648 : Cond.code yX10_noRow cX10_noRow 2 (some .int) ∈ lw_good := z_in (l := tables_1_4) (i := 220) rfl z_tb_4 rfl
theorem w_649 : Cond.instanceMethod yX10_noRow ∈ lw_good := z_in (l := tables_1_4) (i := 218) rfl z_tb_4 rfl
theorem w_650 : Cond.selects RX10 yX10_noRow yX10_noRow ∈ lw_good := z_in (l := tables_1_4) (i := 219) rfl z_tb_4 rfl
theorem w_651 : Cond.methodLink RL 73 yX10_noRow ∈ lw_good := z_in (l := tables_1_4) (i := 217) rfl z_tb_4 rfl
theorem w_652 : Cond.code yX9_behind cX9_behind 6 (some .int) ∈ lw_good := z_in (l := tables_1_3) (i := 96) rfl z_tb_3 rfl
theorem w_653 : Cond.instanceMethod yX9_behind ∈ lw_good := z_in (l := tables_1_3) (i := 94) rfl z_tb_3 rfl
theorem w_654 : Cond.selects RX9 yX9_behind yX9_behind ∈ lw_good := z_in (l := tables_1_3) (i := 95) rfl z_tb_3 rfl
theorem w_655 : Cond.methodLink RL 74 yX9_behind ∈ lw_good := z_in (l := tables_1_3) (i := 93) rfl z_tb_3 rfl
theorem w_656 : Cond.code yX10_behind cX10_behind 5 (some .int) ∈ lw_good := z_in (l := tables_1_4) (i := 224) rfl z_tb_4 rfl
theorem w_657 : Cond.instanceMethod yX10_behind ∈ lw_good := z_in (l := tables_1_4) (i := 222) rfl z_tb_4 rfl
theorem w_658 : Cond.selects RX10 yX10_behind yX10_behind ∈ lw_good := z_in (l := tables_1_4) (i := 223) rfl z_tb_4 rfl
theorem w_659 : Cond.methodLink RL 78 yX10_behind ∈ lw_good := z_in (l := tables_1_4) (i := 221) rfl z_tb_4 rfl
theorem w_660 : Cond.code yX9_strayed cX9_strayed 2 (some .int) ∈ lw_good := z_in (l := tables_1_3) (i := 106) rfl z_tb_3 rfl
theorem w_661 : Cond.instanceMethod yX9_strayed ∈ lw_good := z_in (l := tables_1_3) (i := 104) rfl z_tb_3 rfl
theorem w_662 : Cond.selects RX9 yX9_strayed yX9_strayed ∈ lw_good := z_in (l := tables_1_3) (i := 105) rfl z_tb_3 rfl
theorem w_663 : Cond.methodLink RL 79 yX9_strayed ∈ lw_good := z_in (l := tables_1_3) (i := 103) rfl z_tb_3 rfl
theorem w_664 : Cond.code yX10_strayed cX10_strayed 2 (some .int) ∈ lw_good := z_in (l := tables_1_4) (i := 229) rfl z_tb_4 rfl
theorem w_665 : Cond.instanceMethod yX10_strayed ∈ lw_good := z_in (l := tables_1_4) (i := 227) rfl z_tb_4 rfl
theorem w_666 : Cond.selects RX10 yX10_strayed yX10_strayed ∈ lw_good := z_in (l := tables_1_4) (i := 228) rfl z_tb_4 rfl
theorem w_667 : Cond.methodLink RL 82 yX10_strayed ∈ lw_good := z_in (l := tables_1_4) (i := 226) rfl z_tb_4 rfl
theorem w_668 : Cond.code yX9_bring cX9_bring 6 (some .int) ∈ lw_good := z_in (l := tables_1_3) (i := 110) rfl z_tb_3 rfl
theorem w_669 : Cond.instanceMethod yX9_bring ∈ lw_good := z_in (l := tables_1_3) (i := 108) rfl z_tb_3 rfl
theorem w_670 : Cond.selects RX9 yX9_bring yX9_bring ∈ lw_good := z_in (l := tables_1_3) (i := 109) rfl z_tb_3 rfl
theorem w_671 : Cond.methodLink RL 83 yX9_bring ∈ lw_good := z_in (l := tables_1_3) (i := 107) rfl z_tb_3 rfl
theorem w_672 : Cond.code yX10_bring cX10_bring 9 (some .int) ∈ lw_good := z_in (l := tables_1_4) (i := 233) rfl z_tb_4 rfl
theorem w_673 : Cond.instanceMethod yX10_bring ∈ lw_good := z_in (l := tables_1_4) (i := 231) rfl z_tb_4 rfl
theorem w_674 : Cond.selects RX10 yX10_bring yX10_bring ∈ lw_good := z_in (l := tables_1_4) (i := 232) rfl z_tb_4 rfl
theorem w_675 : Cond.methodLink RL 86 yX10_bring ∈ lw_good := z_in (l := tables_1_4) (i := 230) rfl z_tb_4 rfl
theorem w_676 : Cond.code yX9_pairs cX9_pairs 2 (some .int) ∈ lw_good := z_in (l := tables_1_3) (i := 129) rfl z_tb_3 rfl
theorem w_677 : Cond.instanceMethod yX9_pairs ∈ lw_good := z_in (l := tables_1_3) (i := 127) rfl z_tb_3 rfl
theorem w_678 : Cond.selects RX9 yX9_pairs yX9_pairs ∈ lw_good := z_in (l := tables_1_3) (i := 128) rfl z_tb_3 rfl
theorem w_679 : Cond.methodLink RL 87 yX9_pairs ∈ lw_good := z_in (l := tables_1_3) (i := 126) rfl z_tb_3 rfl
theorem w_680 : Cond.code yX10_pairs cX10_pairs 6 (some .int) ∈ lw_good := z_in (l := tables_1_5) (i := 1) rfl z_tb_5 rfl
theorem w_681 : Cond.instanceMethod yX10_pairs ∈ lw_good := z_in (l := tables_1_4) (i := 239) rfl z_tb_4 rfl
theorem w_682 : Cond.selects RX10 yX10_pairs yX10_pairs ∈ lw_good := z_in (l := tables_1_5) (i := 0) rfl z_tb_5 rfl
theorem w_683 : Cond.methodLink RL 90 yX10_pairs ∈ lw_good := z_in (l := tables_1_4) (i := 238) rfl z_tb_4 rfl
theorem w_684 : Cond.code yX9_homeward cX9_homeward 5 (some .int) ∈ lw_good := z_in (l := tables_1_3) (i := 143) rfl z_tb_3 rfl
theorem w_685 : Cond.instanceMethod yX9_homeward ∈ lw_good := z_in (l := tables_1_3) (i := 141) rfl z_tb_3 rfl
theorem w_686 : Cond.selects RX9 yX9_homeward yX9_homeward ∈ lw_good := z_in (l := tables_1_3) (i := 142) rfl z_tb_3 rfl
theorem w_687 : Cond.methodLink RL 91 yX9_homeward ∈ lw_good := z_in (l := tables_1_3) (i := 140) rfl z_tb_3 rfl
theorem w_688 : Cond.code yX10_homeward cX10_homeward 4 (some .int) ∈ lw_good := z_in (l := tables_1_5) (i := 10) rfl z_tb_5 rfl
theorem w_689 : Cond.instanceMethod yX10_homeward ∈ lw_good := z_in (l := tables_1_5) (i := 8) rfl z_tb_5 rfl
theorem w_690 : Cond.selects RX10 yX10_homeward yX10_homeward ∈ lw_good := z_in (l := tables_1_5) (i := 9) rfl z_tb_5 rfl
theorem w_691 : Cond.methodLink RL 94 yX10_homeward ∈ lw_good := z_in (l := tables_1_5) (i := 7) rfl z_tb_5 rfl
theorem w_692 : Cond.code yX9_seen cX9_seen 4 (some .int) ∈ lw_good := z_in (l := tables_1_3) (i := 148) rfl z_tb_3 rfl
theorem w_693 : Cond.instanceMethod yX9_seen ∈ lw_good := z_in (l := tables_1_3) (i := 146) rfl z_tb_3 rfl
theorem w_694 : Cond.selects RX9 yX9_seen yX9_seen ∈ lw_good := z_in (l := tables_1_3) (i := 147) rfl z_tb_3 rfl
theorem w_695 : Cond.methodLink RL 95 yX9_seen ∈ lw_good := z_in (l := tables_1_3) (i := 145) rfl z_tb_3 rfl
theorem w_696 : Cond.code yX10_seen cX10_seen 4 (some .int) ∈ lw_good := z_in (l := tables_1_5) (i := 14) rfl z_tb_5 rfl
theorem w_697 : Cond.instanceMethod yX10_seen ∈ lw_good := z_in (l := tables_1_5) (i := 12) rfl z_tb_5 rfl
theorem w_698 : Cond.selects RX10 yX10_seen yX10_seen ∈ lw_good := z_in (l := tables_1_5) (i := 13) rfl z_tb_5 rfl
theorem w_699 : Cond.methodLink RL 98 yX10_seen ∈ lw_good := z_in (l := tables_1_5) (i := 11) rfl z_tb_5 rfl
theorem w_700 : Cond.code yX9_forget cX9_forget 2 (some .int) ∈ lw_good := z_in (l := tables_1_3) (i := 156) rfl z_tb_3 rfl
theorem w_701 : Cond.instanceMethod yX9_forget ∈ lw_good := z_in (l := tables_1_3) (i := 154) rfl z_tb_3 rfl
theorem w_702 : Cond.selects RX9 yX9_forget yX9_forget ∈ lw_good := z_in (l := tables_1_3) (i := 155) rfl z_tb_3 rfl
theorem w_703 : Cond.methodLink RL 99 yX9_forget ∈ lw_good := z_in (l := tables_1_3) (i := 153) rfl z_tb_3 rfl
theorem w_704 : Cond.code yX10_forget cX10_forget 2 (some .int) ∈ lw_good := z_in (l := tables_1_5) (i := 18) rfl z_tb_5 rfl
theorem w_705 : Cond.instanceMethod yX10_forget ∈ lw_good := z_in (l := tables_1_5) (i := 16) rfl z_tb_5 rfl
theorem w_706 : Cond.selects RX10 yX10_forget yX10_forget ∈ lw_good := z_in (l := tables_1_5) (i := 17) rfl z_tb_5 rfl
theorem w_707 : Cond.methodLink RL 102 yX10_forget ∈ lw_good := z_in (l := tables_1_5) (i := 15) rfl z_tb_5 rfl
theorem w_708 : Cond.code yX9_villages cX9_villages 5 (some .int) ∈ lw_good := z_in (l := tables_1_3) (i := 160) rfl z_tb_3 rfl
theorem w_709 : Cond.instanceMethod yX9_villages ∈ lw_good := z_in (l := tables_1_3) (i := 158) rfl z_tb_3 rfl
theorem w_710 : Cond.selects RX9 yX9_villages yX9_villages ∈ lw_good := z_in (l := tables_1_3) (i := 159) rfl z_tb_3 rfl
theorem w_711 : Cond.methodLink RL 103 yX9_villages ∈ lw_good := z_in (l := tables_1_3) (i := 157) rfl z_tb_3 rfl
theorem w_712 : Cond.code yX10_villages cX10_villages 6 (some .int) ∈ lw_good := z_in (l := tables_1_5) (i := 22) rfl z_tb_5 rfl
theorem w_713 : Cond.instanceMethod yX10_villages ∈ lw_good := z_in (l := tables_1_5) (i := 20) rfl z_tb_5 rfl
theorem w_714 : Cond.selects RX10 yX10_villages yX10_villages ∈ lw_good := z_in (l := tables_1_5) (i := 21) rfl z_tb_5 rfl
theorem w_715 : Cond.methodLink RL 106 yX10_villages ∈ lw_good := z_in (l := tables_1_5) (i := 19) rfl z_tb_5 rfl
theorem w_716 : Cond.code yX9_strays cX9_strays 5 (some .int) ∈ lw_good := z_in (l := tables_1_3) (i := 174) rfl z_tb_3 rfl
theorem w_717 : Cond.instanceMethod yX9_strays ∈ lw_good := z_in (l := tables_1_3) (i := 172) rfl z_tb_3 rfl
theorem w_718 : Cond.selects RX9 yX9_strays yX9_strays ∈ lw_good := z_in (l := tables_1_3) (i := 173) rfl z_tb_3 rfl
theorem w_719 : Cond.methodLink RL 107 yX9_strays ∈ lw_good := z_in (l := tables_1_3) (i := 171) rfl z_tb_3 rfl
theorem w_720 : Cond.code yX10_strays cX10_strays 4 (some .int) ∈ lw_good := z_in (l := tables_1_5) (i := 30) rfl z_tb_5 rfl
theorem w_721 : Cond.instanceMethod yX10_strays ∈ lw_good := z_in (l := tables_1_5) (i := 28) rfl z_tb_5 rfl
theorem w_722 : Cond.selects RX10 yX10_strays yX10_strays ∈ lw_good := z_in (l := tables_1_5) (i := 29) rfl z_tb_5 rfl
theorem w_723 : Cond.methodLink RL 110 yX10_strays ∈ lw_good := z_in (l := tables_1_5) (i := 27) rfl z_tb_5 rfl
theorem w_724 : Cond.code yX9_lean cX9_lean 6 (some .int) ∈ lw_good := z_in (l := tables_1_3) (i := 180) rfl z_tb_3 rfl
theorem w_725 : Cond.instanceMethod yX9_lean ∈ lw_good := z_in (l := tables_1_3) (i := 178) rfl z_tb_3 rfl
theorem w_726 : Cond.selects RX9 yX9_lean yX9_lean ∈ lw_good := z_in (l := tables_1_3) (i := 179) rfl z_tb_3 rfl
theorem w_727 : Cond.methodLink RL 111 yX9_lean ∈ lw_good := z_in (l := tables_1_3) (i := 177) rfl z_tb_3 rfl
theorem w_728 : Cond.code yX10_lean cX10_lean 7 (some .int) ∈ lw_good := z_in (l := tables_1_5) (i := 34) rfl z_tb_5 rfl
theorem w_729 : Cond.instanceMethod yX10_lean ∈ lw_good := z_in (l := tables_1_5) (i := 32) rfl z_tb_5 rfl
theorem w_730 : Cond.selects RX10 yX10_lean yX10_lean ∈ lw_good := z_in (l := tables_1_5) (i := 33) rfl z_tb_5 rfl
theorem w_731 : Cond.methodLink RL 114 yX10_lean ∈ lw_good := z_in (l := tables_1_5) (i := 31) rfl z_tb_5 rfl
theorem w_732 : Cond.code yX9_storms cX9_storms 10 (some .int) ∈ lw_good := z_in (l := tables_1_3) (i := 189) rfl z_tb_3 rfl
theorem w_733 : Cond.instanceMethod yX9_storms ∈ lw_good := z_in (l := tables_1_3) (i := 187) rfl z_tb_3 rfl
theorem w_734 : Cond.selects RX9 yX9_storms yX9_storms ∈ lw_good := z_in (l := tables_1_3) (i := 188) rfl z_tb_3 rfl
theorem w_735 : Cond.methodLink RL 115 yX9_storms ∈ lw_good := z_in (l := tables_1_3) (i := 186) rfl z_tb_3 rfl
theorem w_736 : Cond.code yX10_storms cX10_storms 11 (some .int) ∈ lw_good := z_in (l := tables_1_5) (i := 38) rfl z_tb_5 rfl
theorem w_737 : Cond.instanceMethod yX10_storms ∈ lw_good := z_in (l := tables_1_5) (i := 36) rfl z_tb_5 rfl
theorem w_738 : Cond.selects RX10 yX10_storms yX10_storms ∈ lw_good := z_in (l := tables_1_5) (i := 37) rfl z_tb_5 rfl
theorem w_739 : Cond.methodLink RL 119 yX10_storms ∈ lw_good := z_in (l := tables_1_5) (i := 35) rfl z_tb_5 rfl
theorem w_740 : Cond.code yX9_march cX9_march 7 (some .int) ∈ lw_good := z_in (l := tables_1_3) (i := 205) rfl z_tb_3 rfl
theorem w_741 : Cond.instanceMethod yX9_march ∈ lw_good := z_in (l := tables_1_3) (i := 203) rfl z_tb_3 rfl
theorem w_742 : Cond.selects RX9 yX9_march yX9_march ∈ lw_good := z_in (l := tables_1_3) (i := 204) rfl z_tb_3 rfl
theorem w_743 : Cond.methodLink RL 120 yX9_march ∈ lw_good := z_in (l := tables_1_3) (i := 202) rfl z_tb_3 rfl
theorem w_744 : Cond.code yX10_march cX10_march 10 (some .int) ∈ lw_good := z_in (l := tables_1_5) (i := 43) rfl z_tb_5 rfl
theorem w_745 : Cond.instanceMethod yX10_march ∈ lw_good := z_in (l := tables_1_5) (i := 41) rfl z_tb_5 rfl
theorem w_746 : Cond.selects RX10 yX10_march yX10_march ∈ lw_good := z_in (l := tables_1_5) (i := 42) rfl z_tb_5 rfl
theorem w_747 : Cond.methodLink RL 123 yX10_march ∈ lw_good := z_in (l := tables_1_5) (i := 40) rfl z_tb_5 rfl
theorem w_748 : Cond.code yX9_keep cX9_keep 1 (some .int) ∈ lw_good := z_in (l := tables_1_3) (i := 221) rfl z_tb_3 rfl
theorem w_749 : Cond.instanceMethod yX9_keep ∈ lw_good := z_in (l := tables_1_3) (i := 219) rfl z_tb_3 rfl
theorem w_750 : Cond.selects RX9 yX9_keep yX9_keep ∈ lw_good := z_in (l := tables_1_3) (i := 220) rfl z_tb_3 rfl
theorem w_751 : Cond.methodLink RL 124 yX9_keep ∈ lw_good := z_in (l := tables_1_3) (i := 218) rfl z_tb_3 rfl
theorem w_752 : Cond.code yX10_keep cX10_keep 1 (some .int) ∈ lw_good := z_in (l := tables_1_5) (i := 52) rfl z_tb_5 rfl
theorem w_753 : Cond.instanceMethod yX10_keep ∈ lw_good := z_in (l := tables_1_5) (i := 50) rfl z_tb_5 rfl
theorem w_754 : Cond.selects RX10 yX10_keep yX10_keep ∈ lw_good := z_in (l := tables_1_5) (i := 51) rfl z_tb_5 rfl
theorem w_755 : Cond.methodLink RL 127 yX10_keep ∈ lw_good := z_in (l := tables_1_5) (i := 49) rfl z_tb_5 rfl
theorem w_756 : Cond.code yX9_back cX9_back 1 (some .int) ∈ lw_good := z_in (l := tables_1_3) (i := 225) rfl z_tb_3 rfl
theorem w_757 : Cond.instanceMethod yX9_back ∈ lw_good := z_in (l := tables_1_3) (i := 223) rfl z_tb_3 rfl
theorem w_758 : Cond.selects RX9 yX9_back yX9_back ∈ lw_good := z_in (l := tables_1_3) (i := 224) rfl z_tb_3 rfl
theorem w_759 : Cond.methodLink RL 128 yX9_back ∈ lw_good := z_in (l := tables_1_3) (i := 222) rfl z_tb_3 rfl
theorem w_760 : Cond.code yX10_back cX10_back 1 (some .int) ∈ lw_good := z_in (l := tables_1_5) (i := 56) rfl z_tb_5 rfl
theorem w_761 : Cond.instanceMethod yX10_back ∈ lw_good := z_in (l := tables_1_5) (i := 54) rfl z_tb_5 rfl
theorem w_762 : Cond.selects RX10 yX10_back yX10_back ∈ lw_good := z_in (l := tables_1_5) (i := 55) rfl z_tb_5 rfl
theorem w_763 : Cond.methodLink RL 131 yX10_back ∈ lw_good := z_in (l := tables_1_5) (i := 53) rfl z_tb_5 rfl
theorem w_764 : Cond.code yX9_count cX9_count 2 (some .int) ∈ lw_good := z_in (l := tables_1_3) (i := 229) rfl z_tb_3 rfl
theorem w_765 : Cond.instanceMethod yX9_count ∈ lw_good := z_in (l := tables_1_3) (i := 227) rfl z_tb_3 rfl
theorem w_766 : Cond.selects RX9 yX9_count yX9_count ∈ lw_good := z_in (l := tables_1_3) (i := 228) rfl z_tb_3 rfl
theorem w_767 : Cond.methodLink RL 132 yX9_count ∈ lw_good := z_in (l := tables_1_3) (i := 226) rfl z_tb_3 rfl
theorem w_768 : Cond.code yX10_count cX10_count 2 (some .int) ∈ lw_good := z_in (l := tables_1_5) (i := 60) rfl z_tb_5 rfl
theorem w_769 : Cond.instanceMethod yX10_count ∈ lw_good := z_in (l := tables_1_5) (i := 58) rfl z_tb_5 rfl
theorem w_770 : Cond.selects RX10 yX10_count yX10_count ∈ lw_good := z_in (l := tables_1_5) (i := 59) rfl z_tb_5 rfl
theorem w_771 : Cond.methodLink RL 135 yX10_count ∈ lw_good := z_in (l := tables_1_5) (i := 57) rfl z_tb_5 rfl
theorem w_772 : Cond.code yX9_tie cX9_tie 3 (some .int) ∈ lw_good := z_in (l := tables_1_3) (i := 57) rfl z_tb_3 rfl
theorem w_773 : Cond.instanceMethod yX9_tie ∈ lw_good := z_in (l := tables_1_3) (i := 55) rfl z_tb_3 rfl
theorem w_774 : Cond.selects RX9 yX9_tie yX9_tie ∈ lw_good := z_in (l := tables_1_3) (i := 56) rfl z_tb_3 rfl
theorem w_775 : Cond.methodLink RL 53 yX9_tie ∈ lw_good := z_in (l := tables_1_3) (i := 54) rfl z_tb_3 rfl
theorem w_776 : Cond.code yX10_tie cX10_tie 3 (some .int) ∈ lw_good := z_in (l := tables_1_4) (i := 201) rfl z_tb_4 rfl
theorem w_777 : Cond.instanceMethod yX10_tie ∈ lw_good := z_in (l := tables_1_4) (i := 199) rfl z_tb_4 rfl
theorem w_778 : Cond.selects RX10 yX10_tie yX10_tie ∈ lw_good := z_in (l := tables_1_4) (i := 200) rfl z_tb_4 rfl
theorem w_779 : Cond.methodLink RL 57 yX10_tie ∈ lw_good := z_in (l := tables_1_4) (i := 198) rfl z_tb_4 rfl
theorem w_780 : Cond.methodLink RX9 1 objectInit ∈ lw_good := z_in (l := tables_1_1) (i := 24) rfl z_tb_1 rfl
theorem w_781 : Cond.arrayClass .char ∈ lw_good := z_in (l := tables_1_1) (i := 76) rfl z_tb_1 rfl
theorem w_782 : Cond.classLink RX9 13 RX5 ∈ lw_good := z_in (l := tables_1_1) (i := 27) rfl z_tb_1 rfl
theorem w_783 : Cond.instantiable RX5 4 ∈ lw_good := z_in (l := tables_1_1) (i := 28) rfl z_tb_1 rfl
theorem w_784 : Cond.code yX5_init cX5_init 1 none ∈ lw_good := z_in (l := tables_1_1) (i := 31) rfl z_tb_1 rfl
theorem w_785 : Cond.instanceMethod yX5_init ∈ lw_good := z_in (l := tables_1_1) (i := 30) rfl z_tb_1 rfl
theorem w_786 : Cond.classLink RX9 20 RX3 ∈ lw_good := z_in (l := tables_1_1) (i := 142) rfl z_tb_1 rfl
theorem w_787 : Cond.classLink RX9 27 RX0 ∈ lw_good := z_in (l := tables_1_1) (i := 144) rfl z_tb_1 rfl
theorem w_788 : Cond.classLink RX9 37 RX6 ∈ lw_good := z_in (l := tables_1_1) (i := 146) rfl z_tb_1 rfl
theorem w_789 : Cond.classLink RX9 44 RX7 ∈ lw_good := z_in (l := tables_1_1) (i := 148) rfl z_tb_1 rfl
theorem w_790 : Cond.instantiable RX7 4 ∈ lw_good := z_in (l := tables_1_1) (i := 149) rfl z_tb_1 rfl
theorem w_791 : Cond.code yX7_init cX7_init 1 none ∈ lw_good := z_in (l := tables_1_1) (i := 152) rfl z_tb_1 rfl
theorem w_792 : Cond.instanceMethod yX7_init ∈ lw_good := z_in (l := tables_1_1) (i := 151) rfl z_tb_1 rfl
theorem w_793 : Cond.classLink RX9 51 RX4 ∈ lw_good := z_in (l := tables_1_1) (i := 168) rfl z_tb_1 rfl
theorem w_794 : Cond.instantiable RX4 2 ∈ lw_good := z_in (l := tables_1_1) (i := 169) rfl z_tb_1 rfl
theorem w_795 : Cond.methodLink RX9 53 yX4_init ∈ lw_good := z_in (l := tables_1_1) (i := 170) rfl z_tb_1 rfl
theorem w_796 : Cond.code yX4_init cX4_init 3 none ∈ lw_good := z_in (l := tables_1_1) (i := 172) rfl z_tb_1 rfl
theorem w_797 : Cond.instanceMethod yX4_init ∈ lw_good := z_in (l := tables_1_1) (i := 171) rfl z_tb_1 rfl
theorem w_798 : Cond.classLink RX9 63 RX2 ∈ lw_good := z_in (l := tables_1_1) (i := 188) rfl z_tb_1 rfl
theorem w_799 : Cond.instantiable RX2 4 ∈ lw_good := z_in (l := tables_1_1) (i := 189) rfl z_tb_1 rfl
theorem w_800 : Cond.code yX2_init cX2_init 1 none ∈ lw_good := z_in (l := tables_1_1) (i := 192) rfl z_tb_1 rfl
theorem w_801 : Cond.instanceMethod yX2_init ∈ lw_good := z_in (l := tables_1_1) (i := 191) rfl z_tb_1 rfl
theorem w_802 : Cond.classLink RX9 70 RX1 ∈ lw_good := z_in (l := tables_1_1) (i := 208) rfl z_tb_1 rfl
theorem w_803 : Cond.instantiable RX1 3 ∈ lw_good := z_in (l := tables_1_1) (i := 209) rfl z_tb_1 rfl
theorem w_804 : Cond.code yX1_init cX1_init 1 none ∈ lw_good := z_in (l := tables_1_1) (i := 212) rfl z_tb_1 rfl
theorem w_805 : Cond.instanceMethod yX1_init ∈ lw_good := z_in (l := tables_1_1) (i := 211) rfl z_tb_1 rfl
theorem w_806 : Cond.code yJ0_toCharArray_70df3 cJ0_toCharArray_70df3 1 (some (.array .char)) ∈ lw_good := z_in (l := tables_1_1) (i := 230) rfl z_tb_1 rfl
theorem w_807 : Cond.initialized RJ0 ∈ lw_good := z_in (l := tables_1_1) (i := 11) rfl z_tb_1 rfl
theorem w_808 : Cond.methodLink RX9 79 yJ0_toCharArray_70df3 ∈ lw_good := z_in (l := tables_1_1) (i := 227) rfl z_tb_1 rfl
theorem w_809 : Cond.instanceMethod yJ0_toCharArray_70df3 ∈ lw_good := z_in (l := tables_1_1) (i := 228) rfl z_tb_1 rfl
theorem w_810 : Cond.selects RJ0 yJ0_toCharArray_70df3 yJ0_toCharArray_70df3 ∈ lw_good := z_in (l := tables_1_1) (i := 229) rfl z_tb_1 rfl
theorem w_811 : Cond.code yJ1_inflate_03870 cJ1_inflate_03870 6 none ∈ lw_good := z_in (l := tables_1_2) (i := 2) rfl z_tb_2 rfl
theorem w_812 : Cond.initialized RJ1 ∈ lw_good := z_in (l := tables_1_1) (i := 12) rfl z_tb_1 rfl
theorem w_813 : Cond.methodLink RJ1 13 yJ1_inflate_03870 ∈ lw_good := z_in (l := tables_1_2) (i := 0) rfl z_tb_2 rfl
theorem w_814 : Cond.static yJ1_inflate_03870 ∈ lw_good := z_in (l := tables_1_2) (i := 1) rfl z_tb_2 rfl
theorem w_815 : Cond.fieldLink RJ0 38 RJ0 "COMPACT_STRINGS" "Z" ∈ lw_good := z_in (l := tables_1_1) (i := 235) rfl z_tb_1 rfl
theorem w_816 : Cond.fieldLink RJ0 15 RJ0 "coder" "B" ∈ lw_good := z_in (l := tables_1_5) (i := 61) rfl z_tb_5 rfl
theorem w_817 : Cond.fieldLink RJ0 9 RJ0 "value" "[B" ∈ lw_good := z_in (l := tables_1_5) (i := 62) rfl z_tb_5 rfl
theorem w_818 : Cond.code yJ0_isLatin1_aae02 cJ0_isLatin1_aae02 1 (some .boolean) ∈ lw_good := z_in (l := tables_1_1) (i := 234) rfl z_tb_1 rfl
theorem w_819 : Cond.methodLink RJ0 492 yJ0_isLatin1_aae02 ∈ lw_good := z_in (l := tables_1_1) (i := 231) rfl z_tb_1 rfl
theorem w_820 : Cond.instanceMethod yJ0_isLatin1_aae02 ∈ lw_good := z_in (l := tables_1_1) (i := 232) rfl z_tb_1 rfl
theorem w_821 : Cond.selects RJ0 yJ0_isLatin1_aae02 yJ0_isLatin1_aae02 ∈ lw_good := z_in (l := tables_1_1) (i := 233) rfl z_tb_1 rfl
theorem w_822 : Cond.code yJ1_toChars_9d188 cJ1_toChars_9d188 2 (some (.array .char)) ∈ lw_good := z_in (l := tables_1_1) (i := 239) rfl z_tb_1 rfl
theorem w_823 : Cond.methodLink RJ0 299 yJ1_toChars_9d188 ∈ lw_good := z_in (l := tables_1_1) (i := 237) rfl z_tb_1 rfl
theorem w_824 : Cond.static yJ1_toChars_9d188 ∈ lw_good := z_in (l := tables_1_1) (i := 238) rfl z_tb_1 rfl
theorem w_825 : Cond.methodLink RX10 1 objectInit ∈ lw_good := z_in (l := tables_1_3) (i := 235) rfl z_tb_3 rfl
theorem w_826 : Cond.arrayClass .byte ∈ lw_good := z_in (l := tables_1_2) (i := 144) rfl z_tb_2 rfl
theorem w_827 : Cond.instantiable RX9 12 ∈ lw_good := z_in (l := tables_1_1) (i := 20) rfl z_tb_1 rfl
theorem w_828 : Cond.instantiable RX10 19 ∈ lw_good := z_in (l := tables_1_3) (i := 231) rfl z_tb_3 rfl
theorem w_829 : Cond.classLink RL 7 RX9 ∈ lw_good := z_in (l := tables_1_1) (i := 19) rfl z_tb_1 rfl
theorem w_830 : Cond.code yX9_init cX9_init 2 none ∈ lw_good := z_in (l := tables_1_1) (i := 23) rfl z_tb_1 rfl
theorem w_831 : Cond.methodLink RL 9 yX9_init ∈ lw_good := z_in (l := tables_1_1) (i := 21) rfl z_tb_1 rfl
theorem w_832 : Cond.instanceMethod yX9_init ∈ lw_good := z_in (l := tables_1_1) (i := 22) rfl z_tb_1 rfl
theorem w_833 : Cond.classLink RL 10 RX10 ∈ lw_good := z_in (l := tables_1_3) (i := 230) rfl z_tb_3 rfl
theorem w_834 : Cond.code yX10_init cX10_init 1 none ∈ lw_good := z_in (l := tables_1_3) (i := 234) rfl z_tb_3 rfl
theorem w_835 : Cond.methodLink RL 12 yX10_init ∈ lw_good := z_in (l := tables_1_3) (i := 232) rfl z_tb_3 rfl
theorem w_836 : Cond.instanceMethod yX10_init ∈ lw_good := z_in (l := tables_1_3) (i := 233) rfl z_tb_3 rfl
theorem iw_0 : ∀ w ∈ u_ws RX0 TX0 4, w ∈ lw_good := by decide +kernel
theorem ft_0 : z_FT TX0 4 tyX0 := ⟨tyX0_ok, nmX0⟩
theorem iw_1 : ∀ w ∈ u_ws RX1 TX1 3, w ∈ lw_good := by decide +kernel
theorem ft_1 : z_FT TX1 3 tyX1 := ⟨tyX1_ok, nmX1⟩
theorem iw_2 : ∀ w ∈ u_ws RX2 TX2 4, w ∈ lw_good := by decide +kernel
theorem ft_2 : z_FT TX2 4 tyX2 := ⟨tyX2_ok, nmX2⟩
theorem iw_3 : ∀ w ∈ u_ws RX3 TX3 6, w ∈ lw_good := by decide +kernel
theorem ft_3 : z_FT TX3 6 tyX3 := ⟨tyX3_ok, nmX3⟩
theorem iw_4 : ∀ w ∈ u_ws RX4 TX4 2, w ∈ lw_good := by decide +kernel
theorem ft_4 : z_FT TX4 2 tyX4 := ⟨tyX4_ok, nmX4⟩
theorem iw_5 : ∀ w ∈ u_ws RX5 TX5 4, w ∈ lw_good := by decide +kernel
theorem ft_5 : z_FT TX5 4 tyX5 := ⟨tyX5_ok, nmX5⟩
theorem iw_6 : ∀ w ∈ u_ws RX6 TX6 3, w ∈ lw_good := by decide +kernel
theorem ft_6 : z_FT TX6 3 tyX6 := ⟨tyX6_ok, nmX6⟩
theorem iw_7 : ∀ w ∈ u_ws RX7 TX7 4, w ∈ lw_good := by decide +kernel
theorem ft_7 : z_FT TX7 4 tyX7 := ⟨tyX7_ok, nmX7⟩
theorem iw_9 : ∀ w ∈ u_ws RX9 TX9 12, w ∈ lw_good := by decide +kernel
theorem ft_9 : z_FT TX9 12 tyX9 := ⟨tyX9_ok, nmX9⟩
theorem iw_10 : ∀ w ∈ u_ws RX10 TX10 19, w ∈ lw_good := by decide +kernel
theorem ft_10 : z_FT TX10 19 tyX10 := ⟨tyX10_ok, nmX10⟩
theorem oi_RX0 : Cond.methodLink RX0 3 objectInit ∈ lw_good ∧ Cond.instanceMethod objectInit ∈ lw_good ∧ Cond.code objectInit ⟨#[0xb1]⟩ 1 none ∈ lw_good := ⟨w_0, w_1, w_2⟩
theorem f_RX0_9 : z_FL RX0 9 RX0 TX0 4 0 0 := ⟨iw_0, rfl, by decide, w_4⟩
theorem f_RX0_15 : z_FL RX0 15 RX0 TX0 4 0 1 := ⟨iw_0, rfl, by decide, w_5⟩
theorem oi_RX3 : Cond.methodLink RX3 3 objectInit ∈ lw_good ∧ Cond.instanceMethod objectInit ∈ lw_good ∧ Cond.code objectInit ⟨#[0xb1]⟩ 1 none ∈ lw_good := ⟨w_6, w_1, w_2⟩
theorem f_RX3_9 : z_FL RX3 9 RX3 TX3 6 3 3 := ⟨iw_3, rfl, by decide, w_7⟩
theorem f_RX3_15 : z_FL RX3 15 RX3 TX3 6 3 4 := ⟨iw_3, rfl, by decide, w_8⟩
theorem f_RX3_18 : z_FL RX3 18 RX3 TX3 6 3 5 := ⟨iw_3, rfl, by decide, w_9⟩
theorem oi_RX6 : Cond.methodLink RX6 3 objectInit ∈ lw_good ∧ Cond.instanceMethod objectInit ∈ lw_good ∧ Cond.code objectInit ⟨#[0xb1]⟩ 1 none ∈ lw_good := ⟨w_10, w_1, w_2⟩
theorem f_RX6_9 : z_FL RX6 9 RX6 TX6 3 6 0 := ⟨iw_6, rfl, by decide, w_11⟩
theorem f_RX6_15 : z_FL RX6 15 RX6 TX6 3 6 1 := ⟨iw_6, rfl, by decide, w_12⟩
theorem oi_RX7 : Cond.methodLink RX7 3 objectInit ∈ lw_good ∧ Cond.instanceMethod objectInit ∈ lw_good ∧ Cond.code objectInit ⟨#[0xb1]⟩ 1 none ∈ lw_good := ⟨w_13, w_1, w_2⟩
theorem f_RX7_9 : z_FL RX7 9 RX7 TX7 4 7 0 := ⟨iw_7, rfl, by decide, w_14⟩
theorem f_RX7_15 : z_FL RX7 15 RX7 TX7 4 7 1 := ⟨iw_7, rfl, by decide, w_15⟩
theorem f_RX7_18 : z_FL RX7 18 RX7 TX7 4 7 2 := ⟨iw_7, rfl, by decide, w_16⟩
theorem oi_RX2 : Cond.methodLink RX2 3 objectInit ∈ lw_good ∧ Cond.instanceMethod objectInit ∈ lw_good ∧ Cond.code objectInit ⟨#[0xb1]⟩ 1 none ∈ lw_good := ⟨w_17, w_1, w_2⟩
theorem f_RX2_9 : z_FL RX2 9 RX2 TX2 4 2 0 := ⟨iw_2, rfl, by decide, w_18⟩
theorem oi_RX1 : Cond.methodLink RX1 3 objectInit ∈ lw_good ∧ Cond.instanceMethod objectInit ∈ lw_good ∧ Cond.code objectInit ⟨#[0xb1]⟩ 1 none ∈ lw_good := ⟨w_19, w_1, w_2⟩
theorem f_RX1_9 : z_FL RX1 9 RX1 TX1 3 1 0 := ⟨iw_1, rfl, by decide, w_20⟩
theorem f_RX1_15 : z_FL RX1 15 RX1 TX1 3 1 2 := ⟨iw_1, rfl, by decide, w_21⟩
theorem oi_RX5 : Cond.methodLink RX5 3 objectInit ∈ lw_good ∧ Cond.instanceMethod objectInit ∈ lw_good ∧ Cond.code objectInit ⟨#[0xb1]⟩ 1 none ∈ lw_good := ⟨w_22, w_1, w_2⟩
theorem f_RX5_12 : z_FL RX5 12 RX5 TX5 4 5 0 := ⟨iw_5, rfl, by decide, w_28⟩
theorem f_RX5_21 : z_FL RX5 21 RX5 TX5 4 5 1 := ⟨iw_5, rfl, by decide, w_34⟩
theorem f_RX5_28 : z_FL RX5 28 RX5 TX5 4 5 2 := ⟨iw_5, rfl, by decide, w_40⟩
theorem f_RX5_32 : z_FL RX5 32 RX5 TX5 4 5 3 := ⟨iw_5, rfl, by decide, w_41⟩
theorem oi_RX4 : Cond.methodLink RX4 1 objectInit ∈ lw_good ∧ Cond.instanceMethod objectInit ∈ lw_good ∧ Cond.code objectInit ⟨#[0xb1]⟩ 1 none ∈ lw_good := ⟨w_42, w_1, w_2⟩
theorem l_RX4_7 : Cond.methodLink RX4 7 Lib.Math.max.name ∈ lw_good ∧ Cond.static Lib.Math.max.name ∈ lw_good ∧ Cond.initialized "java/lang/Math" ∈ lw_good ∧ Cond.code Lib.Math.max.name Lib.Math.max.code 2 (some .int) ∈ lw_good := ⟨w_43, w_44, w_45, w_46⟩
theorem f_RX4_15 : z_FL RX4 15 RX4 TX4 2 4 0 := ⟨iw_4, rfl, by decide, w_48⟩
theorem l_RX9_92 : z_LS RX9 92 yX9_isWithin cX9_isWithin 3 (some .boolean) 3 := ⟨⟨by decide, by decide, by decide +kernel⟩, w_50, w_51, w_52, Or.inl w_49⟩
theorem f_RX9_96 : z_FL RX9 96 RX9 TX9 12 9 1 := ⟨iw_9, rfl, by decide, w_53⟩
theorem f_RX9_9 : z_FL RX9 9 RX9 TX9 12 9 0 := ⟨iw_9, rfl, by decide, w_54⟩
theorem f_RX9_16 : z_FL RX9 16 RX9 TX9 12 9 2 := ⟨iw_9, rfl, by decide, w_55⟩
theorem f_RX5_36 : z_FL RX5 36 RX3 TX3 6 3 0 := ⟨iw_3, rfl, by decide, w_56⟩
theorem f_RX5_40 : z_FL RX5 40 RX3 TX3 6 3 1 := ⟨iw_3, rfl, by decide, w_57⟩
theorem f_RX5_43 : z_FL RX5 43 RX3 TX3 6 3 2 := ⟨iw_3, rfl, by decide, w_58⟩
theorem f_RX5_46 : z_FL RX5 46 RX6 TX6 3 6 2 := ⟨iw_6, rfl, by decide, w_59⟩
theorem l_RX5_53 : z_LS RX5 53 yX5_numbersBehind cX5_numbersBehind 1 (some .int) 1 := ⟨⟨by decide, by decide, by decide +kernel⟩, w_61, w_62, w_63, Or.inl w_60⟩
theorem l_RX5_67 : z_LS RX5 67 yX9_isWithin cX9_isWithin 3 (some .boolean) 3 := ⟨⟨by decide, by decide, by decide +kernel⟩, w_50, w_51, w_52, Or.inr ⟨RX9, by decide +kernel⟩⟩
theorem l_RX5_85 : z_LV RX5 85 yX5_takeFar cX5_takeFar 1 (some .boolean) 0 := ⟨⟨by decide, by decide, by decide +kernel⟩, w_61, w_64, w_65, w_66, w_67⟩
theorem l_RX5_88 : z_LS RX5 88 yX9_isCell cX9_isCell 2 (some .boolean) 2 := ⟨⟨by decide, by decide, by decide +kernel⟩, w_50, w_68, w_69, Or.inr ⟨RX9, by decide +kernel⟩⟩
theorem f_RX5_91 : z_FL RX5 91 RX3 TX3 6 3 3 := ⟨iw_3, rfl, by decide, w_70⟩
theorem l_RX5_94 : z_LS RX5 94 yX8_cellAt cX8_cellAt 2 (some .int) 2 := ⟨⟨by decide, by decide, by decide +kernel⟩, w_72, w_73, w_74, Or.inl w_71⟩
theorem l_RX5_71 : z_LV RX5 71 yX5_takeHome cX5_takeHome 1 (some .boolean) 0 := ⟨⟨by decide, by decide, by decide +kernel⟩, w_61, w_75, w_76, w_77, w_78⟩
theorem f_RX5_100 : z_FL RX5 100 RX0 TX0 4 0 0 := ⟨iw_0, rfl, by decide, w_79⟩
theorem l_RX8_9 : z_LS RX8 9 yX8_cellAt cX8_cellAt 2 (some .int) 2 := ⟨⟨by decide, by decide, by decide +kernel⟩, w_72, w_73, w_74, Or.inl w_80⟩
theorem l_RX5_103 : z_LS RX5 103 yX8_spotAt cX8_spotAt 3 (some .int) 3 := ⟨⟨by decide, by decide, by decide +kernel⟩, w_72, w_82, w_83, Or.inl w_81⟩
theorem f_RX5_107 : z_FL RX5 107 RX3 TX3 6 3 4 := ⟨iw_3, rfl, by decide, w_84⟩
theorem f_RX5_110 : z_FL RX5 110 RX0 TX0 4 0 1 := ⟨iw_0, rfl, by decide, w_85⟩
theorem f_RX5_113 : z_FL RX5 113 RX3 TX3 6 3 5 := ⟨iw_3, rfl, by decide, w_86⟩
theorem l_RX5_75 : z_LV RX5 75 yX5_takeMan cX5_takeMan 1 (some .boolean) 0 := ⟨⟨by decide, by decide, by decide +kernel⟩, w_61, w_87, w_88, w_89, w_90⟩
theorem l_RX5_78 : z_LS RX5 78 yX9_isOrder cX9_isOrder 2 (some .boolean) 2 := ⟨⟨by decide, by decide, by decide +kernel⟩, w_50, w_91, w_92, Or.inr ⟨RX9, by decide +kernel⟩⟩
theorem f_RX6_18 : z_FL RX6 18 RX6 TX6 3 6 2 := ⟨iw_6, rfl, by decide, w_93⟩
theorem l_RX5_82 : z_LV RX5 82 yX6_add cX6_add 3 (some .boolean) 2 := ⟨⟨by decide, by decide, by decide +kernel⟩, w_37, w_94, w_95, w_96, w_97⟩
theorem l_RX5_63 : z_LV RX5 63 yX5_takeItem cX5_takeItem 2 (some .boolean) 1 := ⟨⟨by decide, by decide, by decide +kernel⟩, w_61, w_98, w_99, w_100, w_101⟩
theorem l_RX5_57 : z_LS RX5 57 yX5_figuresAt cX5_figuresAt 4 (some .int) 3 := ⟨⟨by decide, by decide, by decide +kernel⟩, w_61, w_103, w_104, Or.inl w_102⟩
theorem l_RX5_60 : z_LS RX5 60 yX5_numberAt cX5_numberAt 5 (some .int) 3 := ⟨⟨by decide, by decide, by decide +kernel⟩, w_61, w_106, w_107, Or.inl w_105⟩
theorem l_RX5_49 : z_LV RX5 49 yX5_readItem cX5_readItem 9 (some .int) 3 := ⟨⟨by decide, by decide, by decide +kernel⟩, w_61, w_108, w_109, w_110, w_111⟩
theorem l_RX9_85 : z_LV RX9 85 yX5_readAll cX5_readAll 6 (some .int) 2 := ⟨⟨by decide, by decide, by decide +kernel⟩, w_61, w_112, w_113, w_114, w_115⟩
theorem l_RX9_100 : z_LV RX9 100 yX5_hasHomeAndMan cX5_hasHomeAndMan 1 (some .boolean) 0 := ⟨⟨by decide, by decide, by decide +kernel⟩, w_61, w_116, w_117, w_118, w_119⟩
theorem f_RX9_23 : z_FL RX9 23 RX9 TX9 12 9 3 := ⟨iw_9, rfl, by decide, w_120⟩
theorem f_RX9_280 : z_FL RX9 280 RX5 TX5 4 5 0 := ⟨iw_5, rfl, by decide, w_121⟩
theorem f_RX3_21 : z_FL RX3 21 RX3 TX3 6 3 0 := ⟨iw_3, rfl, by decide, w_122⟩
theorem f_RX3_25 : z_FL RX3 25 RX3 TX3 6 3 1 := ⟨iw_3, rfl, by decide, w_123⟩
theorem f_RX3_28 : z_FL RX3 28 RX3 TX3 6 3 2 := ⟨iw_3, rfl, by decide, w_124⟩
theorem l_RX3_31 : Cond.methodLink RX3 31 arraycopyName ∈ lw_good ∧ Cond.native arraycopyName ∈ lw_good ∧ Cond.static arraycopyName ∈ lw_good ∧ Cond.initialized "java/lang/System" ∈ lw_good := ⟨w_125, w_126, w_127, w_128⟩
theorem l_RX9_281 : z_LV RX9 281 yX3_copyFrom cX3_copyFrom 2 none 1 := ⟨⟨by decide, by decide, by decide +kernel⟩, w_25, w_129, w_130, w_131, w_132⟩
theorem f_RX9_30 : z_FL RX9 30 RX9 TX9 12 9 4 := ⟨iw_9, rfl, by decide, w_133⟩
theorem f_RX9_284 : z_FL RX9 284 RX5 TX5 4 5 1 := ⟨iw_5, rfl, by decide, w_134⟩
theorem l_RX0_18 : Cond.methodLink RX0 18 arraycopyName ∈ lw_good ∧ Cond.native arraycopyName ∈ lw_good ∧ Cond.static arraycopyName ∈ lw_good ∧ Cond.initialized "java/lang/System" ∈ lw_good := ⟨w_135, w_126, w_127, w_128⟩
theorem f_RX0_24 : z_FL RX0 24 RX0 TX0 4 0 2 := ⟨iw_0, rfl, by decide, w_136⟩
theorem f_RX0_28 : z_FL RX0 28 RX0 TX0 4 0 3 := ⟨iw_0, rfl, by decide, w_137⟩
theorem l_RX9_213 : z_LV RX9 213 yX0_copyFrom cX0_copyFrom 2 none 1 := ⟨⟨by decide, by decide, by decide +kernel⟩, w_31, w_138, w_139, w_140, w_141⟩
theorem f_RX9_40 : z_FL RX9 40 RX9 TX9 12 9 6 := ⟨iw_9, rfl, by decide, w_142⟩
theorem f_RX9_285 : z_FL RX9 285 RX5 TX5 4 5 2 := ⟨iw_5, rfl, by decide, w_143⟩
theorem l_RX6_22 : Cond.methodLink RX6 22 arraycopyName ∈ lw_good ∧ Cond.native arraycopyName ∈ lw_good ∧ Cond.static arraycopyName ∈ lw_good ∧ Cond.initialized "java/lang/System" ∈ lw_good := ⟨w_144, w_126, w_127, w_128⟩
theorem l_RX9_286 : z_LV RX9 286 yX6_copyFrom cX6_copyFrom 2 none 1 := ⟨⟨by decide, by decide, by decide +kernel⟩, w_37, w_145, w_146, w_147, w_148⟩
theorem f_RX9_47 : z_FL RX9 47 RX9 TX9 12 9 7 := ⟨iw_9, rfl, by decide, w_149⟩
theorem f_RX9_202 : z_FL RX9 202 RX7 TX7 4 7 3 := ⟨iw_7, rfl, by decide, w_150⟩
theorem f_RX9_56 : z_FL RX9 56 RX9 TX9 12 9 8 := ⟨iw_9, rfl, by decide, w_151⟩
theorem f_RX9_193 : z_FL RX9 193 RX4 TX4 2 4 1 := ⟨iw_4, rfl, by decide, w_152⟩
theorem f_RX9_60 : z_FL RX9 60 RX9 TX9 12 9 9 := ⟨iw_9, rfl, by decide, w_153⟩
theorem l_RX9_89 : z_LV RX9 89 yX9_takeWhatWasRead cX9_takeWhatWasRead 1 none 0 := ⟨⟨by decide, by decide, by decide +kernel⟩, w_50, w_154, w_155, w_156, w_157⟩
theorem f_RX9_104 : z_FL RX9 104 RX3 TX3 6 3 1 := ⟨iw_3, rfl, by decide, w_158⟩
theorem l_RX9_107 : z_LV RX9 107 yX9_isMan cX9_isMan 2 (some .boolean) 1 := ⟨⟨by decide, by decide, by decide +kernel⟩, w_50, w_159, w_160, w_161, w_162⟩
theorem f_RX9_121 : z_FL RX9 121 RX3 TX3 6 3 4 := ⟨iw_3, rfl, by decide, w_163⟩
theorem f_RX9_124 : z_FL RX9 124 RX0 TX0 4 0 1 := ⟨iw_0, rfl, by decide, w_164⟩
theorem f_RX9_127 : z_FL RX9 127 RX3 TX3 6 3 5 := ⟨iw_3, rfl, by decide, w_165⟩
theorem l_RX9_130 : z_LV RX9 130 yX0_isTied cX0_isTied 2 (some .boolean) 1 := ⟨⟨by decide, by decide, by decide +kernel⟩, w_31, w_166, w_167, w_168, w_169⟩
theorem l_RX9_133 : z_LS RX9 133 yX9_asNumber cX9_asNumber 1 (some .int) 1 := ⟨⟨by decide, by decide, by decide +kernel⟩, w_50, w_171, w_172, Or.inl w_170⟩
theorem l_RX0_65 : z_LS RX0 65 yX8_cellOf cX8_cellOf 1 (some .int) 1 := ⟨⟨by decide, by decide, by decide +kernel⟩, w_72, w_174, w_175, Or.inl w_173⟩
theorem l_RX8_19 : z_LS RX8 19 yX8_columnOf cX8_columnOf 1 (some .int) 1 := ⟨⟨by decide, by decide, by decide +kernel⟩, w_72, w_177, w_178, Or.inl w_176⟩
theorem l_RX8_28 : Cond.methodLink RX8 28 Lib.Math.abs.name ∈ lw_good ∧ Cond.static Lib.Math.abs.name ∈ lw_good ∧ Cond.initialized "java/lang/Math" ∈ lw_good ∧ Cond.code Lib.Math.abs.name Lib.Math.abs.code 1 (some .int) ∈ lw_good := ⟨w_179, w_180, w_45, w_181⟩
theorem l_RX8_22 : z_LS RX8 22 yX8_rowOf cX8_rowOf 1 (some .int) 1 := ⟨⟨by decide, by decide, by decide +kernel⟩, w_72, w_183, w_184, Or.inl w_182⟩
theorem l_RX8_33 : Cond.methodLink RX8 33 Lib.Math.max.name ∈ lw_good ∧ Cond.static Lib.Math.max.name ∈ lw_good ∧ Cond.initialized "java/lang/Math" ∈ lw_good ∧ Cond.code Lib.Math.max.name Lib.Math.max.code 2 (some .int) ∈ lw_good := ⟨w_185, w_44, w_45, w_46⟩
theorem l_RX0_68 : z_LS RX0 68 yX8_apart cX8_apart 2 (some .int) 2 := ⟨⟨by decide, by decide, by decide +kernel⟩, w_72, w_187, w_188, Or.inl w_186⟩
theorem f_RX0_72 : z_FL RX0 72 RX3 TX3 6 3 2 := ⟨iw_3, rfl, by decide, w_189⟩
theorem l_RX9_137 : z_LV RX9 137 yX0_isLost cX0_isLost 3 (some .boolean) 2 := ⟨⟨by decide, by decide, by decide +kernel⟩, w_31, w_190, w_191, w_192, w_193⟩
theorem f_RX0_56 : z_FL RX0 56 RX3 TX3 6 3 3 := ⟨iw_3, rfl, by decide, w_194⟩
theorem f_RX0_53 : z_FL RX0 53 RX3 TX3 6 3 4 := ⟨iw_3, rfl, by decide, w_195⟩
theorem l_RX9_141 : z_LV RX9 141 yX0_isAtHome cX0_isAtHome 3 (some .boolean) 2 := ⟨⟨by decide, by decide, by decide +kernel⟩, w_31, w_196, w_197, w_198, w_199⟩
theorem f_RX9_111 : z_FL RX9 111 RX0 TX0 4 0 0 := ⟨iw_0, rfl, by decide, w_200⟩
theorem l_RX8_25 : z_LS RX8 25 yX8_lookOf cX8_lookOf 1 (some .int) 1 := ⟨⟨by decide, by decide, by decide +kernel⟩, w_72, w_202, w_203, Or.inl w_201⟩
theorem l_RX8_15 : z_LS RX8 15 yX8_cellOf cX8_cellOf 1 (some .int) 1 := ⟨⟨by decide, by decide, by decide +kernel⟩, w_72, w_174, w_175, Or.inl w_204⟩
theorem l_RX9_115 : z_LS RX9 115 yX8_partOf cX8_partOf 2 (some .int) 2 := ⟨⟨by decide, by decide, by decide +kernel⟩, w_72, w_206, w_207, Or.inl w_205⟩
theorem f_RX9_144 : z_FL RX9 144 RX3 TX3 6 3 0 := ⟨iw_3, rfl, by decide, w_208⟩
theorem f_RX9_147 : z_FL RX9 147 RX3 TX3 6 3 3 := ⟨iw_3, rfl, by decide, w_209⟩
theorem l_RX9_154 : z_LS RX9 154 yX8_rowOf cX8_rowOf 1 (some .int) 1 := ⟨⟨by decide, by decide, by decide +kernel⟩, w_72, w_183, w_184, Or.inl w_210⟩
theorem l_RX9_150 : z_LS RX9 150 yX8_columnOf cX8_columnOf 1 (some .int) 1 := ⟨⟨by decide, by decide, by decide +kernel⟩, w_72, w_177, w_178, Or.inl w_211⟩
theorem f_RX9_157 : z_FL RX9 157 RX6 TX6 3 6 2 := ⟨iw_6, rfl, by decide, w_212⟩
theorem l_RX9_158 : z_LV RX9 158 yX6_asTold cX6_asTold 2 (some .int) 1 := ⟨⟨by decide, by decide, by decide +kernel⟩, w_37, w_213, w_214, w_215, w_216⟩
theorem l_RX9_161 : z_LS RX9 161 yX9_isCell cX9_isCell 2 (some .boolean) 2 := ⟨⟨by decide, by decide, by decide +kernel⟩, w_50, w_68, w_69, Or.inl w_217⟩
theorem l_RX9_165 : z_LS RX9 165 yX8_cellAt cX8_cellAt 2 (some .int) 2 := ⟨⟨by decide, by decide, by decide +kernel⟩, w_72, w_73, w_74, Or.inl w_218⟩
theorem l_RX9_168 : z_LS RX9 168 yX8_wayTo cX8_wayTo 6 (some .int) 2 := ⟨⟨by decide, by decide, by decide +kernel⟩, w_72, w_220, w_221, Or.inl w_219⟩
theorem l_RX9_171 : z_LS RX9 171 yX9_isOrder cX9_isOrder 2 (some .boolean) 2 := ⟨⟨by decide, by decide, by decide +kernel⟩, w_50, w_91, w_92, Or.inl w_222⟩
theorem f_RX4_22 : z_FL RX4 22 RX4 TX4 2 4 1 := ⟨iw_4, rfl, by decide, w_223⟩
theorem l_RX4_26 : z_LV RX4 26 yX4_dropLowest cX4_dropLowest 3 none 0 := ⟨⟨by decide, by decide, by decide +kernel⟩, w_224, w_225, w_226, w_227, w_228⟩
theorem l_RX4_29 : z_LV RX4 29 yX0_copyFrom cX0_copyFrom 2 none 1 := ⟨⟨by decide, by decide, by decide +kernel⟩, w_31, w_138, w_139, w_140, w_229⟩
theorem l_RX9_174 : z_LV RX9 174 yX4_put cX4_put 2 none 1 := ⟨⟨by decide, by decide, by decide +kernel⟩, w_224, w_230, w_231, w_232, w_233⟩
theorem f_RX0_31 : z_FL RX0 31 RX3 TX3 6 3 1 := ⟨iw_3, rfl, by decide, w_234⟩
theorem l_RX0_49 : z_LV RX0 49 yX0_isTied cX0_isTied 2 (some .boolean) 1 := ⟨⟨by decide, by decide, by decide +kernel⟩, w_31, w_166, w_167, w_168, w_235⟩
theorem l_RX0_36 : z_LV RX0 36 yX0_pullOn cX0_pullOn 3 (some .int) 2 := ⟨⟨by decide, by decide, by decide +kernel⟩, w_31, w_236, w_237, w_238, w_239⟩
theorem f_RX0_40 : z_FL RX0 40 RX3 TX3 6 3 5 := ⟨iw_3, rfl, by decide, w_240⟩
theorem l_RX8_51 : z_LS RX8 51 yX9_isCell cX9_isCell 2 (some .boolean) 2 := ⟨⟨by decide, by decide, by decide +kernel⟩, w_50, w_68, w_69, Or.inr ⟨RX9, by decide +kernel⟩⟩
theorem l_RX8_55 : z_LS RX8 55 yX8_spotAt cX8_spotAt 3 (some .int) 3 := ⟨⟨by decide, by decide, by decide +kernel⟩, w_72, w_82, w_83, Or.inl w_243⟩
theorem l_RX8_36 : z_LS RX8 36 yX8_marched cX8_marched 9 (some .int) 3 := ⟨⟨by decide, by decide, by decide +kernel⟩, w_72, w_245, w_246, Or.inl w_244⟩
theorem l_RX8_58 : z_LS RX8 58 yX8_wayTo cX8_wayTo 6 (some .int) 2 := ⟨⟨by decide, by decide, by decide +kernel⟩, w_72, w_220, w_221, Or.inl w_247⟩
theorem l_RX8_61 : z_LS RX8 61 yX8_shorterTurn cX8_shorterTurn 3 (some .int) 2 := ⟨⟨by decide, by decide, by decide +kernel⟩, w_72, w_249, w_250, Or.inl w_248⟩
theorem l_RX8_73 : Cond.methodLink RX8 73 Lib.Math.min.name ∈ lw_good ∧ Cond.static Lib.Math.min.name ∈ lw_good ∧ Cond.initialized "java/lang/Math" ∈ lw_good ∧ Cond.code Lib.Math.min.name Lib.Math.min.code 2 (some .int) ∈ lw_good := ⟨w_251, w_252, w_45, w_253⟩
theorem l_RX8_67 : z_LS RX8 67 yX8_atMost cX8_atMost 2 (some .int) 2 := ⟨⟨by decide, by decide, by decide +kernel⟩, w_72, w_255, w_256, Or.inl w_254⟩
theorem l_RX8_70 : z_LS RX8 70 yX8_contrary cX8_contrary 1 (some .int) 1 := ⟨⟨by decide, by decide, by decide +kernel⟩, w_72, w_258, w_259, Or.inl w_257⟩
theorem l_RX8_64 : z_LS RX8 64 yX8_eighthsToRight cX8_eighthsToRight 3 (some .int) 3 := ⟨⟨by decide, by decide, by decide +kernel⟩, w_72, w_261, w_262, Or.inl w_260⟩
theorem l_RX8_40 : z_LS RX8 40 yX8_halted cX8_halted 7 (some .int) 4 := ⟨⟨by decide, by decide, by decide +kernel⟩, w_72, w_264, w_265, Or.inl w_263⟩
theorem l_RX0_43 : z_LS RX0 43 yX8_ordered cX8_ordered 6 (some .int) 6 := ⟨⟨by decide, by decide, by decide +kernel⟩, w_72, w_267, w_268, Or.inl w_266⟩
theorem l_RX9_178 : z_LV RX9 178 yX0_obey cX0_obey 5 none 3 := ⟨⟨by decide, by decide, by decide +kernel⟩, w_31, w_269, w_270, w_271, w_272⟩
theorem l_RX0_75 : z_LV RX0 75 yX0_isLost cX0_isLost 3 (some .boolean) 2 := ⟨⟨by decide, by decide, by decide +kernel⟩, w_31, w_190, w_191, w_192, w_273⟩
theorem l_RX0_79 : z_LS RX0 79 yX9_asNumber cX9_asNumber 1 (some .int) 1 := ⟨⟨by decide, by decide, by decide +kernel⟩, w_50, w_171, w_172, Or.inr ⟨RX9, by decide +kernel⟩⟩
theorem l_RX9_182 : z_LV RX9 182 yX0_lostMen cX0_lostMen 4 (some .int) 1 := ⟨⟨by decide, by decide, by decide +kernel⟩, w_31, w_274, w_275, w_276, w_277⟩
theorem l_RX9_186 : z_LV RX9 186 yX0_changeTie cX0_changeTie 2 none 1 := ⟨⟨by decide, by decide, by decide +kernel⟩, w_31, w_278, w_279, w_280, w_281⟩
theorem l_RX0_59 : z_LS RX0 59 yJ6_bitCount_0f7a4 cJ6_bitCount_0f7a4 1 (some .int) 1 := ⟨⟨by decide, by decide, by decide +kernel⟩, w_286, w_287, w_288, Or.inl w_285⟩
theorem l_RX9_189 : z_LV RX9 189 yX0_tiedMen cX0_tiedMen 1 (some .int) 0 := ⟨⟨by decide, by decide, by decide +kernel⟩, w_31, w_289, w_290, w_291, w_292⟩
theorem l_RX9_196 : z_LV RX9 196 yX4_takeInto cX4_takeInto 2 none 1 := ⟨⟨by decide, by decide, by decide +kernel⟩, w_224, w_293, w_294, w_295, w_296⟩
theorem l_RX9_199 : z_LV RX9 199 yX6_add cX6_add 3 (some .boolean) 2 := ⟨⟨by decide, by decide, by decide +kernel⟩, w_37, w_94, w_95, w_96, w_297⟩
theorem f_RX9_203 : z_FL RX9 203 RX6 TX6 3 6 0 := ⟨iw_6, rfl, by decide, w_298⟩
theorem f_RX9_206 : z_FL RX9 206 RX6 TX6 3 6 1 := ⟨iw_6, rfl, by decide, w_299⟩
theorem l_RX9_216 : z_LV RX9 216 yX0_pullOn cX0_pullOn 3 (some .int) 2 := ⟨⟨by decide, by decide, by decide +kernel⟩, w_31, w_236, w_237, w_238, w_300⟩
theorem f_RX9_224 : z_FL RX9 224 RX0 TX0 4 0 3 := ⟨iw_0, rfl, by decide, w_301⟩
theorem l_RX9_289 : z_LS RX9 289 yX8_ordered cX8_ordered 6 (some .int) 6 := ⟨⟨by decide, by decide, by decide +kernel⟩, w_72, w_267, w_268, Or.inl w_302⟩
theorem l_RX9_209 : z_LV RX9 209 yX9_spotAfter cX9_spotAfter 6 (some .int) 5 := ⟨⟨by decide, by decide, by decide +kernel⟩, w_50, w_303, w_304, w_305, w_306⟩
theorem f_RX9_34 : z_FL RX9 34 RX9 TX9 12 9 5 := ⟨iw_9, rfl, by decide, w_307⟩
theorem f_RX9_66 : z_FL RX9 66 RX9 TX9 12 9 10 := ⟨iw_9, rfl, by decide, w_308⟩
theorem f_RX2_15 : z_FL RX2 15 RX2 TX2 4 2 1 := ⟨iw_2, rfl, by decide, w_309⟩
theorem f_RX2_19 : z_FL RX2 19 RX2 TX2 4 2 2 := ⟨iw_2, rfl, by decide, w_310⟩
theorem f_RX2_22 : z_FL RX2 22 RX2 TX2 4 2 3 := ⟨iw_2, rfl, by decide, w_311⟩
theorem l_RX9_220 : z_LV RX9 220 yX2_setOut cX2_setOut 4 none 3 := ⟨⟨by decide, by decide, by decide +kernel⟩, w_312, w_313, w_314, w_315, w_316⟩
theorem l_RX2_29 : z_LS RX2 29 yX8_cellOf cX8_cellOf 1 (some .int) 1 := ⟨⟨by decide, by decide, by decide +kernel⟩, w_72, w_174, w_175, Or.inl w_317⟩
theorem l_RX2_35 : z_LS RX2 35 yX8_apart cX8_apart 2 (some .int) 2 := ⟨⟨by decide, by decide, by decide +kernel⟩, w_72, w_187, w_188, Or.inl w_318⟩
theorem l_RX2_39 : z_LS RX2 39 yX8_ordered cX8_ordered 6 (some .int) 6 := ⟨⟨by decide, by decide, by decide +kernel⟩, w_72, w_267, w_268, Or.inl w_319⟩
theorem l_RX2_25 : z_LV RX2 25 yX2_leads cX2_leads 9 (some .boolean) 4 := ⟨⟨by decide, by decide, by decide +kernel⟩, w_312, w_320, w_321, w_322, w_323⟩
theorem l_RX9_227 : z_LV RX9 227 yX2_fewestOrders cX2_fewestOrders 4 (some .int) 2 := ⟨⟨by decide, by decide, by decide +kernel⟩, w_312, w_324, w_325, w_326, w_327⟩
theorem f_RX9_230 : z_FL RX9 230 RX2 TX2 4 2 0 := ⟨iw_2, rfl, by decide, w_328⟩
theorem f_RX9_73 : z_FL RX9 73 RX9 TX9 12 9 11 := ⟨iw_9, rfl, by decide, w_329⟩
theorem f_RX1_18 : z_FL RX1 18 RX1 TX1 3 1 1 := ⟨iw_1, rfl, by decide, w_330⟩
theorem f_RX1_26 : z_FL RX1 26 RX3 TX3 6 3 1 := ⟨iw_3, rfl, by decide, w_331⟩
theorem f_RX1_37 : z_FL RX1 37 RX3 TX3 6 3 4 := ⟨iw_3, rfl, by decide, w_332⟩
theorem f_RX1_40 : z_FL RX1 40 RX0 TX0 4 0 1 := ⟨iw_0, rfl, by decide, w_333⟩
theorem l_RX1_45 : z_LS RX1 45 yX9_asNumber cX9_asNumber 1 (some .int) 1 := ⟨⟨by decide, by decide, by decide +kernel⟩, w_50, w_171, w_172, Or.inr ⟨RX9, by decide +kernel⟩⟩
theorem l_RX1_22 : z_LV RX1 22 yX1_dealTo cX1_dealTo 8 none 5 := ⟨⟨by decide, by decide, by decide +kernel⟩, w_334, w_335, w_336, w_337, w_338⟩
theorem l_RX1_31 : Cond.methodLink RX1 31 arraycopyName ∈ lw_good ∧ Cond.native arraycopyName ∈ lw_good ∧ Cond.static arraycopyName ∈ lw_good ∧ Cond.initialized "java/lang/System" ∈ lw_good := ⟨w_339, w_126, w_127, w_128⟩
theorem l_RX9_233 : z_LV RX9 233 yX1_deal cX1_deal 3 none 2 := ⟨⟨by decide, by decide, by decide +kernel⟩, w_334, w_340, w_341, w_342, w_343⟩
theorem f_RX9_240 : z_FL RX9 240 RX1 TX1 3 1 0 := ⟨iw_1, rfl, by decide, w_344⟩
theorem f_RX9_237 : z_FL RX9 237 RX1 TX1 3 1 1 := ⟨iw_1, rfl, by decide, w_345⟩
theorem l_RX9_243 : z_LS RX9 243 yX8_cellOf cX8_cellOf 1 (some .int) 1 := ⟨⟨by decide, by decide, by decide +kernel⟩, w_72, w_174, w_175, Or.inl w_346⟩
theorem f_RX7_21 : z_FL RX7 21 RX7 TX7 4 7 3 := ⟨iw_7, rfl, by decide, w_347⟩
theorem l_RX9_246 : z_LV RX9 246 yX7_add cX7_add 4 (some .boolean) 3 := ⟨⟨by decide, by decide, by decide +kernel⟩, w_348, w_349, w_350, w_351, w_352⟩
theorem f_RX7_25 : z_FL RX7 25 RX6 TX6 3 6 2 := ⟨iw_6, rfl, by decide, w_353⟩
theorem f_RX7_30 : z_FL RX7 30 RX6 TX6 3 6 0 := ⟨iw_6, rfl, by decide, w_354⟩
theorem f_RX7_33 : z_FL RX7 33 RX6 TX6 3 6 1 := ⟨iw_6, rfl, by decide, w_355⟩
theorem l_RX7_38 : z_LS RX7 38 yX8_ordered cX8_ordered 6 (some .int) 6 := ⟨⟨by decide, by decide, by decide +kernel⟩, w_72, w_267, w_268, Or.inl w_356⟩
theorem l_RX7_42 : z_LS RX7 42 yX8_lookOf cX8_lookOf 1 (some .int) 1 := ⟨⟨by decide, by decide, by decide +kernel⟩, w_72, w_202, w_203, Or.inl w_357⟩
theorem l_RX7_46 : z_LV RX7 46 yX7_allows cX7_allows 5 (some .boolean) 3 := ⟨⟨by decide, by decide, by decide +kernel⟩, w_348, w_358, w_359, w_360, w_361⟩
theorem l_RX9_248 : z_LV RX9 248 yX7_fits cX7_fits 7 (some .boolean) 4 := ⟨⟨by decide, by decide, by decide +kernel⟩, w_348, w_362, w_363, w_364, w_365⟩
theorem l_RX9_256 : z_LS RX9 256 yJ6_bitCount_0f7a4 cJ6_bitCount_0f7a4 1 (some .int) 1 := ⟨⟨by decide, by decide, by decide +kernel⟩, w_286, w_287, w_288, Or.inl w_366⟩
theorem l_RX9_252 : z_LS RX9 252 yX8_halted cX8_halted 7 (some .int) 4 := ⟨⟨by decide, by decide, by decide +kernel⟩, w_72, w_264, w_265, Or.inl w_367⟩
theorem l_RX0_86 : z_LS RX0 86 yX8_lookOf cX8_lookOf 1 (some .int) 1 := ⟨⟨by decide, by decide, by decide +kernel⟩, w_72, w_202, w_203, Or.inl w_368⟩
theorem l_RX9_261 : z_LV RX9 261 yX0_menLooking cX0_menLooking 5 (some .int) 2 := ⟨⟨by decide, by decide, by decide +kernel⟩, w_31, w_369, w_370, w_371, w_372⟩
theorem l_RX9_293 : Cond.methodLink RX9 293 Lib.Math.max.name ∈ lw_good ∧ Cond.static Lib.Math.max.name ∈ lw_good ∧ Cond.initialized "java/lang/Math" ∈ lw_good ∧ Cond.code Lib.Math.max.name Lib.Math.max.code 2 (some .int) ∈ lw_good := ⟨w_373, w_44, w_45, w_46⟩
theorem l_RX9_264 : z_LV RX9 264 yX9_spotBehindStorm cX9_spotBehindStorm 6 (some .int) 2 := ⟨⟨by decide, by decide, by decide +kernel⟩, w_50, w_374, w_375, w_376, w_377⟩
theorem l_RX9_267 : z_LV RX9 267 yX9_weightOf cX9_weightOf 5 (some .int) 2 := ⟨⟨by decide, by decide, by decide +kernel⟩, w_50, w_378, w_379, w_380, w_381⟩
theorem l_RX9_270 : z_LS RX9 270 yX9_sharedDivisor cX9_sharedDivisor 6 (some .int) 2 := ⟨⟨by decide, by decide, by decide +kernel⟩, w_50, w_383, w_384, Or.inl w_382⟩
theorem l_RX9_273 : z_LS RX9 273 yX9_drawOf cX9_drawOf 4 (some .int) 2 := ⟨⟨by decide, by decide, by decide +kernel⟩, w_50, w_390, w_391, Or.inl w_389⟩
theorem l_RX0_83 : z_LV RX0 83 yX0_isAtHome cX0_isAtHome 3 (some .boolean) 2 := ⟨⟨by decide, by decide, by decide +kernel⟩, w_31, w_196, w_197, w_198, w_392⟩
theorem l_RX9_276 : z_LV RX9 276 yX0_isAnybodyAtHome cX0_isAnybodyAtHome 3 (some .boolean) 1 := ⟨⟨by decide, by decide, by decide +kernel⟩, w_31, w_393, w_394, w_395, w_396⟩
theorem l_RX10_60 : z_LS RX10 60 yX10_in cX10_in 6 (some .boolean) 3 := ⟨⟨by decide, by decide, by decide +kernel⟩, w_400, w_401, w_402, Or.inl w_399⟩
theorem f_RX10_68 : z_FL RX10 68 RX10 TX10 19 10 4 := ⟨iw_10, rfl, by decide, w_403⟩
theorem f_RX10_16 : z_FL RX10 16 RX10 TX10 19 10 5 := ⟨iw_10, rfl, by decide, w_404⟩
theorem f_RX10_7 : z_FL RX10 7 RX10 TX10 19 10 0 := ⟨iw_10, rfl, by decide, w_405⟩
theorem f_RX10_71 : z_FL RX10 71 RX10 TX10 19 10 6 := ⟨iw_10, rfl, by decide, w_406⟩
theorem f_RX10_81 : z_FL RX10 81 RX10 TX10 19 10 8 := ⟨iw_10, rfl, by decide, w_407⟩
theorem f_RX10_92 : z_FL RX10 92 RX10 TX10 19 10 7 := ⟨iw_10, rfl, by decide, w_408⟩
theorem l_RX10_74 : z_LV RX10 74 yX10_next cX10_next 1 (some .int) 0 := ⟨⟨by decide, by decide, by decide +kernel⟩, w_400, w_409, w_410, w_411, w_412⟩
theorem l_RX10_85 : z_LV RX10 85 yX10_number cX10_number 5 (some .int) 2 := ⟨⟨by decide, by decide, by decide +kernel⟩, w_400, w_415, w_416, w_417, w_418⟩
theorem l_RX10_89 : z_LV RX10 89 yX10_more cX10_more 3 (some .int) 2 := ⟨⟨by decide, by decide, by decide +kernel⟩, w_400, w_419, w_420, w_421, w_422⟩
theorem l_RX10_35 : z_LV RX10 35 yX10_puts cX10_puts 8 none 6 := ⟨⟨by decide, by decide, by decide +kernel⟩, w_400, w_423, w_424, w_425, w_426⟩
theorem l_RX10_39 : z_LV RX10 39 yX10_tells cX10_tells 5 none 3 := ⟨⟨by decide, by decide, by decide +kernel⟩, w_400, w_427, w_428, w_429, w_430⟩
theorem l_RX10_95 : z_LV RX10 95 yX10_item cX10_item 9 none 1 := ⟨⟨by decide, by decide, by decide +kernel⟩, w_400, w_431, w_432, w_433, w_434⟩
theorem l_RX10_99 : z_LV RX10 99 yX10_reads cX10_reads 2 (some .boolean) 0 := ⟨⟨by decide, by decide, by decide +kernel⟩, w_400, w_435, w_436, w_437, w_438⟩
theorem f_RX10_13 : z_FL RX10 13 RX10 TX10 19 10 1 := ⟨iw_10, rfl, by decide, w_439⟩
theorem f_RX10_46 : z_FL RX10 46 RX10 TX10 19 10 2 := ⟨iw_10, rfl, by decide, w_440⟩
theorem f_RX10_50 : z_FL RX10 50 RX10 TX10 19 10 3 := ⟨iw_10, rfl, by decide, w_441⟩
theorem f_RX10_53 : z_FL RX10 53 RX10 TX10 19 10 9 := ⟨iw_10, rfl, by decide, w_442⟩
theorem l_RX10_43 : z_LV RX10 43 yX10_stands cX10_stands 2 none 0 := ⟨⟨by decide, by decide, by decide +kernel⟩, w_400, w_443, w_444, w_445, w_446⟩
theorem l_RX10_56 : z_LV RX10 56 yX10_men cX10_men 1 (some .int) 0 := ⟨⟨by decide, by decide, by decide +kernel⟩, w_400, w_447, w_448, w_449, w_450⟩
theorem l_RX10_113 : z_LV RX10 113 yX10_isMan cX10_isMan 2 (some .boolean) 1 := ⟨⟨by decide, by decide, by decide +kernel⟩, w_400, w_451, w_452, w_453, w_454⟩
theorem l_RX10_119 : z_LV RX10 119 yX10_isHome cX10_isHome 4 (some .boolean) 2 := ⟨⟨by decide, by decide, by decide +kernel⟩, w_400, w_456, w_457, w_458, w_459⟩
theorem l_RX10_103 : z_LS RX10 103 yX10_apart cX10_apart 2 (some .int) 2 := ⟨⟨by decide, by decide, by decide +kernel⟩, w_400, w_461, w_462, Or.inl w_460⟩
theorem l_RX10_106 : z_LS RX10 106 yX10_larger cX10_larger 2 (some .int) 2 := ⟨⟨by decide, by decide, by decide +kernel⟩, w_400, w_464, w_465, Or.inl w_463⟩
theorem l_RX10_109 : z_LV RX10 109 yX10_isLost cX10_isLost 3 (some .boolean) 2 := ⟨⟨by decide, by decide, by decide +kernel⟩, w_400, w_466, w_467, w_468, w_469⟩
theorem l_RX10_124 : z_LS RX10 124 yX10_way cX10_way 6 (some .int) 4 := ⟨⟨by decide, by decide, by decide +kernel⟩, w_400, w_472, w_473, Or.inl w_471⟩
theorem l_RX10_168 : z_LS RX10 168 yX10_isOrder cX10_isOrder 2 (some .boolean) 2 := ⟨⟨by decide, by decide, by decide +kernel⟩, w_400, w_477, w_478, Or.inl w_476⟩
theorem l_RX10_161 : z_LV RX10 161 yX10_copies cX10_copies 4 none 2 := ⟨⟨by decide, by decide, by decide +kernel⟩, w_400, w_479, w_480, w_481, w_482⟩
theorem l_RX10_171 : z_LV RX10 171 yX10_known cX10_known 2 none 0 := ⟨⟨by decide, by decide, by decide +kernel⟩, w_400, w_483, w_484, w_485, w_486⟩
theorem f_RX10_135 : z_FL RX10 135 RX10 TX10 19 10 13 := ⟨iw_10, rfl, by decide, w_487⟩
theorem f_RX10_138 : z_FL RX10 138 RX10 TX10 19 10 14 := ⟨iw_10, rfl, by decide, w_488⟩
theorem f_RX10_128 : z_FL RX10 128 RX10 TX10 19 10 15 := ⟨iw_10, rfl, by decide, w_489⟩
theorem f_RX10_141 : z_FL RX10 141 RX10 TX10 19 10 16 := ⟨iw_10, rfl, by decide, w_490⟩
theorem l_RX10_155 : z_LV RX10 155 yX10_picks cX10_picks 3 none 2 := ⟨⟨by decide, by decide, by decide +kernel⟩, w_400, w_491, w_492, w_493, w_494⟩
theorem l_RX10_144 : z_LV RX10 144 yX10_marches cX10_marches 6 none 2 := ⟨⟨by decide, by decide, by decide +kernel⟩, w_400, w_497, w_498, w_499, w_500⟩
theorem l_RX10_148 : z_LS RX10 148 yX10_has cX10_has 2 (some .boolean) 2 := ⟨⟨by decide, by decide, by decide +kernel⟩, w_400, w_502, w_503, Or.inl w_501⟩
theorem l_RX10_151 : z_LV RX10 151 yX10_halts cX10_halts 9 none 4 := ⟨⟨by decide, by decide, by decide +kernel⟩, w_400, w_504, w_505, w_506, w_507⟩
theorem l_RX10_158 : z_LV RX10 158 yX10_goes cX10_goes 6 none 4 := ⟨⟨by decide, by decide, by decide +kernel⟩, w_400, w_508, w_509, w_510, w_511⟩
theorem l_RX10_174 : z_LV RX10 174 yX10_orders cX10_orders 5 none 3 := ⟨⟨by decide, by decide, by decide +kernel⟩, w_400, w_512, w_513, w_514, w_515⟩
theorem l_RX10_177 : z_LV RX10 177 yX10_lost cX10_lost 4 (some .int) 1 := ⟨⟨by decide, by decide, by decide +kernel⟩, w_400, w_516, w_517, w_518, w_519⟩
theorem l_RX10_181 : z_LS RX10 181 yX10_bits cX10_bits 3 (some .int) 1 := ⟨⟨by decide, by decide, by decide +kernel⟩, w_400, w_521, w_522, Or.inl w_520⟩
theorem l_RX10_186 : z_LV RX10 186 yX10_brings cX10_brings 10 (some .boolean) 5 := ⟨⟨by decide, by decide, by decide +kernel⟩, w_400, w_524, w_525, w_526, w_527⟩
theorem f_RX10_29 : z_FL RX10 29 RX10 TX10 19 10 17 := ⟨iw_10, rfl, by decide, w_529⟩
theorem f_RX10_32 : z_FL RX10 32 RX10 TX10 19 10 18 := ⟨iw_10, rfl, by decide, w_530⟩
theorem l_RX10_192 : z_LV RX10 192 yX10_gives cX10_gives 7 (some .boolean) 0 := ⟨⟨by decide, by decide, by decide +kernel⟩, w_400, w_531, w_532, w_533, w_534⟩
theorem f_RX10_20 : z_FL RX10 20 RX10 TX10 19 10 10 := ⟨iw_10, rfl, by decide, w_535⟩
theorem f_RX10_23 : z_FL RX10 23 RX10 TX10 19 10 11 := ⟨iw_10, rfl, by decide, w_536⟩
theorem f_RX10_26 : z_FL RX10 26 RX10 TX10 19 10 12 := ⟨iw_10, rfl, by decide, w_537⟩
theorem l_RX10_195 : z_LV RX10 195 yX10_isSo cX10_isSo 7 (some .boolean) 3 := ⟨⟨by decide, by decide, by decide +kernel⟩, w_400, w_538, w_539, w_540, w_541⟩
theorem l_RL_13 : z_LV RL 13 yX9_write cX9_write 2 (some .int) 1 := ⟨⟨by decide, by decide, by decide +kernel⟩, w_50, w_548, w_549, w_550, w_551⟩
theorem l_RL_17 : z_LV RL 17 yX10_write cX10_write 2 (some .int) 1 := ⟨⟨by decide, by decide, by decide +kernel⟩, w_400, w_552, w_553, w_554, w_555⟩
theorem l_RL_18 : z_LV RL 18 yX9_wipe cX9_wipe 2 (some .int) 0 := ⟨⟨by decide, by decide, by decide +kernel⟩, w_50, w_556, w_557, w_558, w_559⟩
theorem l_RL_22 : z_LV RL 22 yX10_wipe cX10_wipe 2 (some .int) 0 := ⟨⟨by decide, by decide, by decide +kernel⟩, w_400, w_560, w_561, w_562, w_563⟩
theorem l_RL_23 : z_LV RL 23 yX9_fault cX9_fault 1 (some .int) 0 := ⟨⟨by decide, by decide, by decide +kernel⟩, w_50, w_564, w_565, w_566, w_567⟩
theorem l_RL_26 : z_LV RL 26 yX10_fault cX10_fault 1 (some .int) 0 := ⟨⟨by decide, by decide, by decide +kernel⟩, w_400, w_568, w_569, w_570, w_571⟩
theorem l_RL_27 : z_LV RL 27 yX9_lay cX9_lay 1 (some .int) 0 := ⟨⟨by decide, by decide, by decide +kernel⟩, w_50, w_572, w_573, w_574, w_575⟩
theorem l_RL_30 : z_LV RL 30 yX10_lay cX10_lay 2 (some .int) 0 := ⟨⟨by decide, by decide, by decide +kernel⟩, w_400, w_576, w_577, w_578, w_579⟩
theorem l_RL_31 : z_LV RL 31 yX9_man cX9_man 3 (some .int) 2 := ⟨⟨by decide, by decide, by decide +kernel⟩, w_50, w_580, w_581, w_582, w_583⟩
theorem l_RL_35 : z_LV RL 35 yX10_man cX10_man 3 (some .int) 2 := ⟨⟨by decide, by decide, by decide +kernel⟩, w_400, w_584, w_585, w_586, w_587⟩
theorem l_RL_36 : z_LV RL 36 yX9_home cX9_home 3 (some .int) 2 := ⟨⟨by decide, by decide, by decide +kernel⟩, w_50, w_588, w_589, w_590, w_591⟩
theorem l_RL_39 : z_LV RL 39 yX10_home cX10_home 3 (some .int) 2 := ⟨⟨by decide, by decide, by decide +kernel⟩, w_400, w_592, w_593, w_594, w_595⟩
theorem l_RL_40 : z_LV RL 40 yX9_told cX9_told 2 (some .int) 1 := ⟨⟨by decide, by decide, by decide +kernel⟩, w_50, w_596, w_597, w_598, w_599⟩
theorem l_RL_43 : z_LV RL 43 yX10_told cX10_told 2 (some .int) 1 := ⟨⟨by decide, by decide, by decide +kernel⟩, w_400, w_600, w_601, w_602, w_603⟩
theorem l_RL_44 : z_LV RL 44 yX9_toward cX9_toward 5 (some .int) 4 := ⟨⟨by decide, by decide, by decide +kernel⟩, w_50, w_604, w_605, w_606, w_607⟩
theorem l_RL_48 : z_LV RL 48 yX10_toward cX10_toward 6 (some .int) 4 := ⟨⟨by decide, by decide, by decide +kernel⟩, w_400, w_608, w_609, w_610, w_611⟩
theorem l_RL_49 : z_LV RL 49 yX9_order cX9_order 3 (some .int) 2 := ⟨⟨by decide, by decide, by decide +kernel⟩, w_50, w_612, w_613, w_614, w_615⟩
theorem l_RL_52 : z_LV RL 52 yX10_order cX10_order 3 (some .int) 2 := ⟨⟨by decide, by decide, by decide +kernel⟩, w_400, w_616, w_617, w_618, w_619⟩
theorem l_RL_58 : z_LV RL 58 yX9_swap cX9_swap 4 (some .int) 2 := ⟨⟨by decide, by decide, by decide +kernel⟩, w_50, w_620, w_621, w_622, w_623⟩
theorem l_RL_61 : z_LV RL 61 yX10_swap cX10_swap 4 (some .int) 2 := ⟨⟨by decide, by decide, by decide +kernel⟩, w_400, w_624, w_625, w_626, w_627⟩
theorem l_RL_62 : z_LV RL 62 yX9_undo cX9_undo 1 (some .int) 0 := ⟨⟨by decide, by decide, by decide +kernel⟩, w_50, w_628, w_629, w_630, w_631⟩
theorem l_RL_65 : z_LV RL 65 yX10_undo cX10_undo 1 (some .int) 0 := ⟨⟨by decide, by decide, by decide +kernel⟩, w_400, w_632, w_633, w_634, w_635⟩
theorem l_RL_66 : z_LV RL 66 yX9_tell cX9_tell 3 (some .int) 2 := ⟨⟨by decide, by decide, by decide +kernel⟩, w_50, w_636, w_637, w_638, w_639⟩
theorem l_RL_69 : z_LV RL 69 yX10_tell cX10_tell 3 (some .int) 2 := ⟨⟨by decide, by decide, by decide +kernel⟩, w_400, w_640, w_641, w_642, w_643⟩
theorem l_RL_70 : z_LV RL 70 yX9_noRow cX9_noRow 2 (some .int) 0 := ⟨⟨by decide, by decide, by decide +kernel⟩, w_50, w_644, w_645, w_646, w_647⟩
theorem l_RL_73 : z_LV RL 73 yX10_noRow cX10_noRow 2 (some .int) 0 := ⟨⟨by decide, by decide, by decide +kernel⟩, w_400, w_648, w_649, w_650, w_651⟩
theorem l_RL_74 : z_LV RL 74 yX9_behind cX9_behind 6 (some .int) 3 := ⟨⟨by decide, by decide, by decide +kernel⟩, w_50, w_652, w_653, w_654, w_655⟩
theorem l_RL_78 : z_LV RL 78 yX10_behind cX10_behind 5 (some .int) 3 := ⟨⟨by decide, by decide, by decide +kernel⟩, w_400, w_656, w_657, w_658, w_659⟩
theorem l_RL_79 : z_LV RL 79 yX9_strayed cX9_strayed 2 (some .int) 0 := ⟨⟨by decide, by decide, by decide +kernel⟩, w_50, w_660, w_661, w_662, w_663⟩
theorem l_RL_82 : z_LV RL 82 yX10_strayed cX10_strayed 2 (some .int) 0 := ⟨⟨by decide, by decide, by decide +kernel⟩, w_400, w_664, w_665, w_666, w_667⟩
theorem l_RL_83 : z_LV RL 83 yX9_bring cX9_bring 6 (some .int) 4 := ⟨⟨by decide, by decide, by decide +kernel⟩, w_50, w_668, w_669, w_670, w_671⟩
theorem l_RL_86 : z_LV RL 86 yX10_bring cX10_bring 9 (some .int) 4 := ⟨⟨by decide, by decide, by decide +kernel⟩, w_400, w_672, w_673, w_674, w_675⟩
theorem l_RL_87 : z_LV RL 87 yX9_pairs cX9_pairs 2 (some .int) 1 := ⟨⟨by decide, by decide, by decide +kernel⟩, w_50, w_676, w_677, w_678, w_679⟩
theorem l_RL_90 : z_LV RL 90 yX10_pairs cX10_pairs 6 (some .int) 1 := ⟨⟨by decide, by decide, by decide +kernel⟩, w_400, w_680, w_681, w_682, w_683⟩
theorem l_RL_91 : z_LV RL 91 yX9_homeward cX9_homeward 5 (some .int) 1 := ⟨⟨by decide, by decide, by decide +kernel⟩, w_50, w_684, w_685, w_686, w_687⟩
theorem l_RL_94 : z_LV RL 94 yX10_homeward cX10_homeward 4 (some .int) 1 := ⟨⟨by decide, by decide, by decide +kernel⟩, w_400, w_688, w_689, w_690, w_691⟩
theorem l_RL_95 : z_LV RL 95 yX9_seen cX9_seen 4 (some .int) 3 := ⟨⟨by decide, by decide, by decide +kernel⟩, w_50, w_692, w_693, w_694, w_695⟩
theorem l_RL_98 : z_LV RL 98 yX10_seen cX10_seen 4 (some .int) 3 := ⟨⟨by decide, by decide, by decide +kernel⟩, w_400, w_696, w_697, w_698, w_699⟩
theorem l_RL_99 : z_LV RL 99 yX9_forget cX9_forget 2 (some .int) 0 := ⟨⟨by decide, by decide, by decide +kernel⟩, w_50, w_700, w_701, w_702, w_703⟩
theorem l_RL_102 : z_LV RL 102 yX10_forget cX10_forget 2 (some .int) 0 := ⟨⟨by decide, by decide, by decide +kernel⟩, w_400, w_704, w_705, w_706, w_707⟩
theorem l_RL_103 : z_LV RL 103 yX9_villages cX9_villages 5 (some .int) 2 := ⟨⟨by decide, by decide, by decide +kernel⟩, w_50, w_708, w_709, w_710, w_711⟩
theorem l_RL_106 : z_LV RL 106 yX10_villages cX10_villages 6 (some .int) 2 := ⟨⟨by decide, by decide, by decide +kernel⟩, w_400, w_712, w_713, w_714, w_715⟩
theorem l_RL_107 : z_LV RL 107 yX9_strays cX9_strays 5 (some .int) 1 := ⟨⟨by decide, by decide, by decide +kernel⟩, w_50, w_716, w_717, w_718, w_719⟩
theorem l_RL_110 : z_LV RL 110 yX10_strays cX10_strays 4 (some .int) 1 := ⟨⟨by decide, by decide, by decide +kernel⟩, w_400, w_720, w_721, w_722, w_723⟩
theorem l_RL_111 : z_LV RL 111 yX9_lean cX9_lean 6 (some .int) 1 := ⟨⟨by decide, by decide, by decide +kernel⟩, w_50, w_724, w_725, w_726, w_727⟩
theorem l_RL_114 : z_LV RL 114 yX10_lean cX10_lean 7 (some .int) 1 := ⟨⟨by decide, by decide, by decide +kernel⟩, w_400, w_728, w_729, w_730, w_731⟩
theorem l_RL_115 : z_LV RL 115 yX9_storms cX9_storms 10 (some .int) 5 := ⟨⟨by decide, by decide, by decide +kernel⟩, w_50, w_732, w_733, w_734, w_735⟩
theorem l_RL_119 : z_LV RL 119 yX10_storms cX10_storms 11 (some .int) 5 := ⟨⟨by decide, by decide, by decide +kernel⟩, w_400, w_736, w_737, w_738, w_739⟩
theorem l_RL_120 : z_LV RL 120 yX9_march cX9_march 7 (some .int) 3 := ⟨⟨by decide, by decide, by decide +kernel⟩, w_50, w_740, w_741, w_742, w_743⟩
theorem l_RL_123 : z_LV RL 123 yX10_march cX10_march 10 (some .int) 3 := ⟨⟨by decide, by decide, by decide +kernel⟩, w_400, w_744, w_745, w_746, w_747⟩
theorem l_RL_124 : z_LV RL 124 yX9_keep cX9_keep 1 (some .int) 0 := ⟨⟨by decide, by decide, by decide +kernel⟩, w_50, w_748, w_749, w_750, w_751⟩
theorem l_RL_127 : z_LV RL 127 yX10_keep cX10_keep 1 (some .int) 0 := ⟨⟨by decide, by decide, by decide +kernel⟩, w_400, w_752, w_753, w_754, w_755⟩
theorem l_RL_128 : z_LV RL 128 yX9_back cX9_back 1 (some .int) 0 := ⟨⟨by decide, by decide, by decide +kernel⟩, w_50, w_756, w_757, w_758, w_759⟩
theorem l_RL_131 : z_LV RL 131 yX10_back cX10_back 1 (some .int) 0 := ⟨⟨by decide, by decide, by decide +kernel⟩, w_400, w_760, w_761, w_762, w_763⟩
theorem l_RL_132 : z_LV RL 132 yX9_count cX9_count 2 (some .int) 1 := ⟨⟨by decide, by decide, by decide +kernel⟩, w_50, w_764, w_765, w_766, w_767⟩
theorem l_RL_135 : z_LV RL 135 yX10_count cX10_count 2 (some .int) 1 := ⟨⟨by decide, by decide, by decide +kernel⟩, w_400, w_768, w_769, w_770, w_771⟩
theorem l_RL_53 : z_LV RL 53 yX9_tie cX9_tie 3 (some .int) 2 := ⟨⟨by decide, by decide, by decide +kernel⟩, w_50, w_772, w_773, w_774, w_775⟩
theorem l_RL_57 : z_LV RL 57 yX10_tie cX10_tie 3 (some .int) 2 := ⟨⟨by decide, by decide, by decide +kernel⟩, w_400, w_776, w_777, w_778, w_779⟩
theorem oi_RX9 : Cond.methodLink RX9 1 objectInit ∈ lw_good ∧ Cond.instanceMethod objectInit ∈ lw_good ∧ Cond.code objectInit ⟨#[0xb1]⟩ 1 none ∈ lw_good := ⟨w_780, w_1, w_2⟩
theorem oi_RX10 : Cond.methodLink RX10 1 objectInit ∈ lw_good ∧ Cond.instanceMethod objectInit ∈ lw_good ∧ Cond.code objectInit ⟨#[0xb1]⟩ 1 none ∈ lw_good := ⟨w_825, w_1, w_2⟩
