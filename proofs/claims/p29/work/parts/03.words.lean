set_option maxRecDepth 100000 in
theorem gWAll : wsL_law.all goodWord = true := by decide +kernel
set_option maxRecDepth 100000 in
theorem wm_0 : Cond.classLink RL 7 RX6 ∈ wsL_law := List.mem_of_getElem? (i := 0) (by decide +kernel)
set_option maxRecDepth 100000 in
theorem wm_1 : Cond.instantiable RX6 8 ∈ wsL_law := List.mem_of_getElem? (i := 1) (by decide +kernel)
set_option maxRecDepth 100000 in
theorem wm_2 : Cond.initialized RX6 ∈ wsL_law := List.mem_of_getElem? (i := 2) (by decide +kernel)
set_option maxRecDepth 100000 in
theorem wm_3 : Cond.classLink RL 10 RX7 ∈ wsL_law := List.mem_of_getElem? (i := 3) (by decide +kernel)
set_option maxRecDepth 100000 in
theorem wm_4 : Cond.instantiable RX7 17 ∈ wsL_law := List.mem_of_getElem? (i := 4) (by decide +kernel)
set_option maxRecDepth 100000 in
theorem wm_5 : Cond.initialized RX7 ∈ wsL_law := List.mem_of_getElem? (i := 5) (by decide +kernel)
set_option maxRecDepth 100000 in
theorem wm_6 : Cond.methodLink RL 9 yX6_init ∈ wsL_law := List.mem_of_getElem? (i := 6) (by decide +kernel)
set_option maxRecDepth 100000 in
theorem wm_7 : Cond.instanceMethod yX6_init ∈ wsL_law := List.mem_of_getElem? (i := 7) (by decide +kernel)
set_option maxRecDepth 100000 in
theorem wm_8 : Cond.code yX6_init cX6_init 1 none ∈ wsL_law := List.mem_of_getElem? (i := 8) (by decide +kernel)
set_option maxRecDepth 100000 in
theorem wm_9 : Cond.methodLink RX6 3 objectInit ∈ wsL_law := List.mem_of_getElem? (i := 9) (by decide +kernel)
set_option maxRecDepth 100000 in
theorem wm_10 : Cond.instanceMethod objectInit ∈ wsL_law := List.mem_of_getElem? (i := 10) (by decide +kernel)
set_option maxRecDepth 100000 in
theorem wm_11 : Cond.code objectInit ⟨#[0xb1]⟩ 1 none ∈ wsL_law := List.mem_of_getElem? (i := 11) (by decide +kernel)
set_option maxRecDepth 100000 in
theorem wm_12 : Cond.classLink RX6 9 RX5 ∈ wsL_law := List.mem_of_getElem? (i := 12) (by decide +kernel)
set_option maxRecDepth 100000 in
theorem wm_13 : Cond.instantiable RX5 5 ∈ wsL_law := List.mem_of_getElem? (i := 13) (by decide +kernel)
set_option maxRecDepth 100000 in
theorem wm_14 : Cond.initialized RX5 ∈ wsL_law := List.mem_of_getElem? (i := 14) (by decide +kernel)
set_option maxRecDepth 100000 in
theorem wm_15 : Cond.fieldLink RX6 12 "IslandGrammar" "state" "LIslandGrammar$State;" ∈ wsL_law := List.mem_of_getElem? (i := 15) (by decide +kernel)
set_option maxRecDepth 100000 in
theorem wm_16 : Cond.classLink RX6 16 RX1 ∈ wsL_law := List.mem_of_getElem? (i := 16) (by decide +kernel)
set_option maxRecDepth 100000 in
theorem wm_17 : Cond.instantiable RX1 3 ∈ wsL_law := List.mem_of_getElem? (i := 17) (by decide +kernel)
set_option maxRecDepth 100000 in
theorem wm_18 : Cond.initialized RX1 ∈ wsL_law := List.mem_of_getElem? (i := 18) (by decide +kernel)
set_option maxRecDepth 100000 in
theorem wm_19 : Cond.fieldLink RX6 19 "IslandGrammar" "history" "LIslandGrammar$History;" ∈ wsL_law := List.mem_of_getElem? (i := 19) (by decide +kernel)
set_option maxRecDepth 100000 in
theorem wm_20 : Cond.classLink RX6 23 RX4 ∈ wsL_law := List.mem_of_getElem? (i := 20) (by decide +kernel)
set_option maxRecDepth 100000 in
theorem wm_21 : Cond.instantiable RX4 1 ∈ wsL_law := List.mem_of_getElem? (i := 21) (by decide +kernel)
set_option maxRecDepth 100000 in
theorem wm_22 : Cond.initialized RX4 ∈ wsL_law := List.mem_of_getElem? (i := 22) (by decide +kernel)
set_option maxRecDepth 100000 in
theorem wm_23 : Cond.fieldLink RX6 28 "IslandGrammar" "buffer" "LIslandGrammar$Row;" ∈ wsL_law := List.mem_of_getElem? (i := 23) (by decide +kernel)
set_option maxRecDepth 100000 in
theorem wm_24 : Cond.fieldLink RX6 32 "IslandGrammar" "errors" "LIslandGrammar$Row;" ∈ wsL_law := List.mem_of_getElem? (i := 24) (by decide +kernel)
set_option maxRecDepth 100000 in
theorem wm_25 : Cond.classLink RX6 35 RX2 ∈ wsL_law := List.mem_of_getElem? (i := 25) (by decide +kernel)
set_option maxRecDepth 100000 in
theorem wm_26 : Cond.instantiable RX2 5 ∈ wsL_law := List.mem_of_getElem? (i := 26) (by decide +kernel)
set_option maxRecDepth 100000 in
theorem wm_27 : Cond.initialized RX2 ∈ wsL_law := List.mem_of_getElem? (i := 27) (by decide +kernel)
set_option maxRecDepth 100000 in
theorem wm_28 : Cond.fieldLink RX6 40 "IslandGrammar" "matcher" "LIslandGrammar$Matcher;" ∈ wsL_law := List.mem_of_getElem? (i := 28) (by decide +kernel)
set_option maxRecDepth 100000 in
theorem wm_29 : Cond.classLink RX6 44 RX3 ∈ wsL_law := List.mem_of_getElem? (i := 29) (by decide +kernel)
set_option maxRecDepth 100000 in
theorem wm_30 : Cond.instantiable RX3 16 ∈ wsL_law := List.mem_of_getElem? (i := 30) (by decide +kernel)
set_option maxRecDepth 100000 in
theorem wm_31 : Cond.initialized RX3 ∈ wsL_law := List.mem_of_getElem? (i := 31) (by decide +kernel)
set_option maxRecDepth 100000 in
theorem wm_32 : Cond.fieldLink RX6 49 "IslandGrammar" "nodes" "LIslandGrammar$Nodes;" ∈ wsL_law := List.mem_of_getElem? (i := 32) (by decide +kernel)
set_option maxRecDepth 100000 in
theorem wm_33 : Cond.fieldLink RX6 53 "IslandGrammar" "bufferSize" "I" ∈ wsL_law := List.mem_of_getElem? (i := 33) (by decide +kernel)
set_option maxRecDepth 100000 in
theorem wm_34 : Cond.fieldLink RX6 57 "IslandGrammar" "stale" "Z" ∈ wsL_law := List.mem_of_getElem? (i := 34) (by decide +kernel)
set_option maxRecDepth 100000 in
theorem wm_35 : Cond.methodLink RX6 11 yX5_init ∈ wsL_law := List.mem_of_getElem? (i := 35) (by decide +kernel)
set_option maxRecDepth 100000 in
theorem wm_36 : Cond.instanceMethod yX5_init ∈ wsL_law := List.mem_of_getElem? (i := 36) (by decide +kernel)
set_option maxRecDepth 100000 in
theorem wm_37 : Cond.code yX5_init cX5_init 1 none ∈ wsL_law := List.mem_of_getElem? (i := 37) (by decide +kernel)
set_option maxRecDepth 100000 in
theorem wm_38 : Cond.methodLink RX5 3 objectInit ∈ wsL_law := List.mem_of_getElem? (i := 38) (by decide +kernel)
set_option maxRecDepth 100000 in
theorem wm_39 : Cond.classLink RX5 9 RX4 ∈ wsL_law := List.mem_of_getElem? (i := 39) (by decide +kernel)
set_option maxRecDepth 100000 in
theorem wm_40 : Cond.fieldLink RX5 14 "IslandGrammar$State" "text" "LIslandGrammar$Row;" ∈ wsL_law := List.mem_of_getElem? (i := 40) (by decide +kernel)
set_option maxRecDepth 100000 in
theorem wm_41 : Cond.fieldLink RX5 20 "IslandGrammar$State" "patternSizes" "LIslandGrammar$Row;" ∈ wsL_law := List.mem_of_getElem? (i := 41) (by decide +kernel)
set_option maxRecDepth 100000 in
theorem wm_42 : Cond.fieldLink RX5 23 "IslandGrammar$State" "patterns" "LIslandGrammar$Row;" ∈ wsL_law := List.mem_of_getElem? (i := 42) (by decide +kernel)
set_option maxRecDepth 100000 in
theorem wm_43 : Cond.fieldLink RX5 26 "IslandGrammar$State" "stops" "LIslandGrammar$Row;" ∈ wsL_law := List.mem_of_getElem? (i := 43) (by decide +kernel)
set_option maxRecDepth 100000 in
theorem wm_44 : Cond.fieldLink RX5 29 "IslandGrammar$State" "textSize" "I" ∈ wsL_law := List.mem_of_getElem? (i := 44) (by decide +kernel)
set_option maxRecDepth 100000 in
theorem wm_45 : Cond.methodLink RX5 11 yX4_init ∈ wsL_law := List.mem_of_getElem? (i := 45) (by decide +kernel)
set_option maxRecDepth 100000 in
theorem wm_46 : Cond.instanceMethod yX4_init ∈ wsL_law := List.mem_of_getElem? (i := 46) (by decide +kernel)
set_option maxRecDepth 100000 in
theorem wm_47 : Cond.code yX4_init cX4_init 2 none ∈ wsL_law := List.mem_of_getElem? (i := 47) (by decide +kernel)
set_option maxRecDepth 100000 in
theorem wm_48 : Cond.methodLink RX4 3 objectInit ∈ wsL_law := List.mem_of_getElem? (i := 48) (by decide +kernel)
set_option maxRecDepth 100000 in
theorem wm_49 : Cond.arrayClass .int ∈ wsL_law := List.mem_of_getElem? (i := 49) (by decide +kernel)
set_option maxRecDepth 100000 in
theorem wm_50 : Cond.fieldLink RX4 9 "IslandGrammar$Row" "cells" "[I" ∈ wsL_law := List.mem_of_getElem? (i := 50) (by decide +kernel)
set_option maxRecDepth 100000 in
theorem wm_51 : Cond.methodLink RX5 33 yX4_fill ∈ wsL_law := List.mem_of_getElem? (i := 51) (by decide +kernel)
set_option maxRecDepth 100000 in
theorem wm_52 : Cond.instanceMethod yX4_fill ∈ wsL_law := List.mem_of_getElem? (i := 52) (by decide +kernel)
set_option maxRecDepth 100000 in
theorem wm_53 : Cond.selects RX4 yX4_fill yX4_fill ∈ wsL_law := List.mem_of_getElem? (i := 53) (by decide +kernel)
set_option maxRecDepth 100000 in
theorem wm_54 : Cond.code yX4_fill cX4_fill 3 none ∈ wsL_law := List.mem_of_getElem? (i := 54) (by decide +kernel)
set_option maxRecDepth 100000 in
theorem wm_55 : Cond.instanceMethod yX1_init ∈ wsL_law := List.mem_of_getElem? (i := 55) (by decide +kernel)
set_option maxRecDepth 100000 in
theorem wm_56 : Cond.code yX1_init cX1_init 1 none ∈ wsL_law := List.mem_of_getElem? (i := 56) (by decide +kernel)
set_option maxRecDepth 100000 in
theorem wm_57 : Cond.methodLink RX1 3 objectInit ∈ wsL_law := List.mem_of_getElem? (i := 57) (by decide +kernel)
set_option maxRecDepth 100000 in
theorem wm_58 : Cond.classLink RX1 9 RX5 ∈ wsL_law := List.mem_of_getElem? (i := 58) (by decide +kernel)
set_option maxRecDepth 100000 in
theorem wm_59 : Cond.fieldLink RX1 12 "IslandGrammar$History" "ring" "[LIslandGrammar$State;" ∈ wsL_law := List.mem_of_getElem? (i := 59) (by decide +kernel)
set_option maxRecDepth 100000 in
theorem wm_60 : Cond.fieldLink RX1 18 "IslandGrammar$History" "next" "I" ∈ wsL_law := List.mem_of_getElem? (i := 60) (by decide +kernel)
set_option maxRecDepth 100000 in
theorem wm_61 : Cond.fieldLink RX1 22 "IslandGrammar$History" "count" "I" ∈ wsL_law := List.mem_of_getElem? (i := 61) (by decide +kernel)
set_option maxRecDepth 100000 in
theorem wm_62 : Cond.methodLink RX1 11 yX5_init ∈ wsL_law := List.mem_of_getElem? (i := 62) (by decide +kernel)
set_option maxRecDepth 100000 in
theorem wm_63 : Cond.methodLink RX6 25 yX4_init ∈ wsL_law := List.mem_of_getElem? (i := 63) (by decide +kernel)
set_option maxRecDepth 100000 in
theorem wm_64 : Cond.methodLink RX6 37 yX2_init ∈ wsL_law := List.mem_of_getElem? (i := 64) (by decide +kernel)
set_option maxRecDepth 100000 in
theorem wm_65 : Cond.instanceMethod yX2_init ∈ wsL_law := List.mem_of_getElem? (i := 65) (by decide +kernel)
set_option maxRecDepth 100000 in
theorem wm_66 : Cond.code yX2_init cX2_init 2 none ∈ wsL_law := List.mem_of_getElem? (i := 66) (by decide +kernel)
set_option maxRecDepth 100000 in
theorem wm_67 : Cond.methodLink RX2 3 objectInit ∈ wsL_law := List.mem_of_getElem? (i := 67) (by decide +kernel)
set_option maxRecDepth 100000 in
theorem wm_68 : Cond.classLink RX2 9 RX4 ∈ wsL_law := List.mem_of_getElem? (i := 68) (by decide +kernel)
set_option maxRecDepth 100000 in
theorem wm_69 : Cond.fieldLink RX2 14 "IslandGrammar$Matcher" "digitEnds" "LIslandGrammar$Row;" ∈ wsL_law := List.mem_of_getElem? (i := 69) (by decide +kernel)
set_option maxRecDepth 100000 in
theorem wm_70 : Cond.fieldLink RX2 20 "IslandGrammar$Matcher" "letterEnds" "LIslandGrammar$Row;" ∈ wsL_law := List.mem_of_getElem? (i := 70) (by decide +kernel)
set_option maxRecDepth 100000 in
theorem wm_71 : Cond.fieldLink RX2 23 "IslandGrammar$Matcher" "firstRules" "LIslandGrammar$Row;" ∈ wsL_law := List.mem_of_getElem? (i := 71) (by decide +kernel)
set_option maxRecDepth 100000 in
theorem wm_72 : Cond.classLink RX2 26 RX0 ∈ wsL_law := List.mem_of_getElem? (i := 72) (by decide +kernel)
set_option maxRecDepth 100000 in
theorem wm_73 : Cond.instantiable RX0 1 ∈ wsL_law := List.mem_of_getElem? (i := 73) (by decide +kernel)
set_option maxRecDepth 100000 in
theorem wm_74 : Cond.initialized RX0 ∈ wsL_law := List.mem_of_getElem? (i := 74) (by decide +kernel)
set_option maxRecDepth 100000 in
theorem wm_75 : Cond.fieldLink RX2 29 "IslandGrammar$Matcher" "restEnds" "LIslandGrammar$EndTable;" ∈ wsL_law := List.mem_of_getElem? (i := 75) (by decide +kernel)
set_option maxRecDepth 100000 in
theorem wm_76 : Cond.fieldLink RX2 33 "IslandGrammar$Matcher" "state" "LIslandGrammar$State;" ∈ wsL_law := List.mem_of_getElem? (i := 76) (by decide +kernel)
set_option maxRecDepth 100000 in
theorem wm_77 : Cond.methodLink RX2 11 yX4_init ∈ wsL_law := List.mem_of_getElem? (i := 77) (by decide +kernel)
set_option maxRecDepth 100000 in
theorem wm_78 : Cond.instanceMethod yX0_init ∈ wsL_law := List.mem_of_getElem? (i := 78) (by decide +kernel)
set_option maxRecDepth 100000 in
theorem wm_79 : Cond.code yX0_init cX0_init 1 none ∈ wsL_law := List.mem_of_getElem? (i := 79) (by decide +kernel)
set_option maxRecDepth 100000 in
theorem wm_80 : Cond.methodLink RX0 3 objectInit ∈ wsL_law := List.mem_of_getElem? (i := 80) (by decide +kernel)
set_option maxRecDepth 100000 in
theorem wm_81 : Cond.fieldLink RX0 11 "IslandGrammar$EndTable" "cells" "[I" ∈ wsL_law := List.mem_of_getElem? (i := 81) (by decide +kernel)
set_option maxRecDepth 100000 in
theorem wm_82 : Cond.methodLink RX6 46 yX3_init ∈ wsL_law := List.mem_of_getElem? (i := 82) (by decide +kernel)
set_option maxRecDepth 100000 in
theorem wm_83 : Cond.instanceMethod yX3_init ∈ wsL_law := List.mem_of_getElem? (i := 83) (by decide +kernel)
set_option maxRecDepth 100000 in
theorem wm_84 : Cond.code yX3_init cX3_init 3 none ∈ wsL_law := List.mem_of_getElem? (i := 84) (by decide +kernel)
set_option maxRecDepth 100000 in
theorem wm_85 : Cond.methodLink RX3 3 objectInit ∈ wsL_law := List.mem_of_getElem? (i := 85) (by decide +kernel)
set_option maxRecDepth 100000 in
theorem wm_86 : Cond.classLink RX3 9 RX4 ∈ wsL_law := List.mem_of_getElem? (i := 86) (by decide +kernel)
set_option maxRecDepth 100000 in
theorem wm_87 : Cond.fieldLink RX3 14 "IslandGrammar$Nodes" "rules" "LIslandGrammar$Row;" ∈ wsL_law := List.mem_of_getElem? (i := 87) (by decide +kernel)
set_option maxRecDepth 100000 in
theorem wm_88 : Cond.fieldLink RX3 20 "IslandGrammar$Nodes" "starts" "LIslandGrammar$Row;" ∈ wsL_law := List.mem_of_getElem? (i := 88) (by decide +kernel)
set_option maxRecDepth 100000 in
theorem wm_89 : Cond.fieldLink RX3 23 "IslandGrammar$Nodes" "ends" "LIslandGrammar$Row;" ∈ wsL_law := List.mem_of_getElem? (i := 89) (by decide +kernel)
set_option maxRecDepth 100000 in
theorem wm_90 : Cond.fieldLink RX3 26 "IslandGrammar$Nodes" "parents" "LIslandGrammar$Row;" ∈ wsL_law := List.mem_of_getElem? (i := 90) (by decide +kernel)
set_option maxRecDepth 100000 in
theorem wm_91 : Cond.fieldLink RX3 29 "IslandGrammar$Nodes" "depths" "LIslandGrammar$Row;" ∈ wsL_law := List.mem_of_getElem? (i := 91) (by decide +kernel)
set_option maxRecDepth 100000 in
theorem wm_92 : Cond.fieldLink RX3 32 "IslandGrammar$Nodes" "waters" "LIslandGrammar$Row;" ∈ wsL_law := List.mem_of_getElem? (i := 92) (by decide +kernel)
set_option maxRecDepth 100000 in
theorem wm_93 : Cond.fieldLink RX3 35 "IslandGrammar$Nodes" "numbers" "LIslandGrammar$Row;" ∈ wsL_law := List.mem_of_getElem? (i := 93) (by decide +kernel)
set_option maxRecDepth 100000 in
theorem wm_94 : Cond.fieldLink RX3 38 "IslandGrammar$Nodes" "dueRules" "LIslandGrammar$Row;" ∈ wsL_law := List.mem_of_getElem? (i := 94) (by decide +kernel)
set_option maxRecDepth 100000 in
theorem wm_95 : Cond.fieldLink RX3 41 "IslandGrammar$Nodes" "dueParents" "LIslandGrammar$Row;" ∈ wsL_law := List.mem_of_getElem? (i := 95) (by decide +kernel)
set_option maxRecDepth 100000 in
theorem wm_96 : Cond.fieldLink RX3 44 "IslandGrammar$Nodes" "count" "I" ∈ wsL_law := List.mem_of_getElem? (i := 96) (by decide +kernel)
set_option maxRecDepth 100000 in
theorem wm_97 : Cond.fieldLink RX3 48 "IslandGrammar$Nodes" "topIslands" "I" ∈ wsL_law := List.mem_of_getElem? (i := 97) (by decide +kernel)
set_option maxRecDepth 100000 in
theorem wm_98 : Cond.fieldLink RX3 51 "IslandGrammar$Nodes" "topWater" "I" ∈ wsL_law := List.mem_of_getElem? (i := 98) (by decide +kernel)
set_option maxRecDepth 100000 in
theorem wm_99 : Cond.fieldLink RX3 54 "IslandGrammar$Nodes" "waterRun" "I" ∈ wsL_law := List.mem_of_getElem? (i := 99) (by decide +kernel)
set_option maxRecDepth 100000 in
theorem wm_100 : Cond.fieldLink RX3 57 "IslandGrammar$Nodes" "longestRun" "I" ∈ wsL_law := List.mem_of_getElem? (i := 100) (by decide +kernel)
set_option maxRecDepth 100000 in
theorem wm_101 : Cond.fieldLink RX3 60 "IslandGrammar$Nodes" "state" "LIslandGrammar$State;" ∈ wsL_law := List.mem_of_getElem? (i := 101) (by decide +kernel)
set_option maxRecDepth 100000 in
theorem wm_102 : Cond.fieldLink RX3 64 "IslandGrammar$Nodes" "matcher" "LIslandGrammar$Matcher;" ∈ wsL_law := List.mem_of_getElem? (i := 102) (by decide +kernel)
set_option maxRecDepth 100000 in
theorem wm_103 : Cond.methodLink RX3 11 yX4_init ∈ wsL_law := List.mem_of_getElem? (i := 103) (by decide +kernel)
set_option maxRecDepth 100000 in
theorem wm_104 : Cond.methodLink RL 12 yX7_init ∈ wsL_law := List.mem_of_getElem? (i := 104) (by decide +kernel)
set_option maxRecDepth 100000 in
theorem wm_105 : Cond.instanceMethod yX7_init ∈ wsL_law := List.mem_of_getElem? (i := 105) (by decide +kernel)
set_option maxRecDepth 100000 in
theorem wm_106 : Cond.code yX7_init cX7_init 2 none ∈ wsL_law := List.mem_of_getElem? (i := 106) (by decide +kernel)
set_option maxRecDepth 100000 in
theorem wm_107 : Cond.methodLink RX7 1 objectInit ∈ wsL_law := List.mem_of_getElem? (i := 107) (by decide +kernel)
set_option maxRecDepth 100000 in
theorem wm_108 : Cond.fieldLink RX7 7 "IslandGrammarModel" "now" "[I" ∈ wsL_law := List.mem_of_getElem? (i := 108) (by decide +kernel)
set_option maxRecDepth 100000 in
theorem wm_109 : Cond.fieldLink RX7 13 "IslandGrammarModel" "history" "[I" ∈ wsL_law := List.mem_of_getElem? (i := 109) (by decide +kernel)
set_option maxRecDepth 100000 in
theorem wm_110 : Cond.fieldLink RX7 16 "IslandGrammarModel" "pattern" "[I" ∈ wsL_law := List.mem_of_getElem? (i := 110) (by decide +kernel)
set_option maxRecDepth 100000 in
theorem wm_111 : Cond.fieldLink RX7 19 "IslandGrammarModel" "errors" "[I" ∈ wsL_law := List.mem_of_getElem? (i := 111) (by decide +kernel)
set_option maxRecDepth 100000 in
theorem wm_112 : Cond.fieldLink RX7 22 "IslandGrammarModel" "ends" "[I" ∈ wsL_law := List.mem_of_getElem? (i := 112) (by decide +kernel)
set_option maxRecDepth 100000 in
theorem wm_113 : Cond.fieldLink RX7 25 "IslandGrammarModel" "foundRule" "[I" ∈ wsL_law := List.mem_of_getElem? (i := 113) (by decide +kernel)
set_option maxRecDepth 100000 in
theorem wm_114 : Cond.fieldLink RX7 28 "IslandGrammarModel" "foundStart" "[I" ∈ wsL_law := List.mem_of_getElem? (i := 114) (by decide +kernel)
set_option maxRecDepth 100000 in
theorem wm_115 : Cond.fieldLink RX7 31 "IslandGrammarModel" "foundParent" "[I" ∈ wsL_law := List.mem_of_getElem? (i := 115) (by decide +kernel)
set_option maxRecDepth 100000 in
theorem wm_116 : Cond.fieldLink RX7 34 "IslandGrammarModel" "foundWater" "[I" ∈ wsL_law := List.mem_of_getElem? (i := 116) (by decide +kernel)
set_option maxRecDepth 100000 in
theorem wm_117 : Cond.fieldLink RX7 37 "IslandGrammarModel" "foundNumber" "[I" ∈ wsL_law := List.mem_of_getElem? (i := 117) (by decide +kernel)
