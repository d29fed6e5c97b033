set_option maxRecDepth 100000 in
theorem gWAll : wsL_law.all goodWord = true := by decide +kernel
set_option maxRecDepth 100000 in
theorem wm_0 : Cond.classLink RL 7 RX6 ∈ wsL_law := List.mem_of_getElem? (i := 0) (by decide +kernel)
set_option maxRecDepth 100000 in
theorem wm_1 : Cond.instantiable RX6 8 ∈ wsL_law := List.mem_of_getElem? (i := 1) (by decide +kernel)
set_option maxRecDepth 100000 in
theorem wm_2 : Cond.initialized RX6 ∈ wsL_law := List.mem_of_getElem? (i := 2) (by decide +kernel)
set_option maxRecDepth 100000 in
theorem wm_3 : Cond.classLink RL 10 RX7 ∈ wsL_law := List.mem_of_getElem? (i := 3) (by decide +kernel)
set_option maxRecDepth 100000 in
theorem wm_4 : Cond.instantiable RX7 17 ∈ wsL_law := List.mem_of_getElem? (i := 4) (by decide +kernel)
set_option maxRecDepth 100000 in
theorem wm_5 : Cond.initialized RX7 ∈ wsL_law := List.mem_of_getElem? (i := 5) (by decide +kernel)
set_option maxRecDepth 100000 in
theorem wm_6 : Cond.methodLink RL 9 yX6_init ∈ wsL_law := List.mem_of_getElem? (i := 6) (by decide +kernel)
set_option maxRecDepth 100000 in
theorem wm_7 : Cond.instanceMethod yX6_init ∈ wsL_law := List.mem_of_getElem? (i := 7) (by decide +kernel)
set_option maxRecDepth 100000 in
theorem wm_8 : Cond.code yX6_init cX6_init 1 none ∈ wsL_law := List.mem_of_getElem? (i := 8) (by decide +kernel)
set_option maxRecDepth 100000 in
theorem wm_9 : Cond.methodLink RX6 3 objectInit ∈ wsL_law := List.mem_of_getElem? (i := 9) (by decide +kernel)
set_option maxRecDepth 100000 in
theorem wm_10 : Cond.instanceMethod objectInit ∈ wsL_law := List.mem_of_getElem? (i := 10) (by decide +kernel)
set_option maxRecDepth 100000 in
theorem wm_11 : Cond.code objectInit ⟨#[0xb1]⟩ 1 none ∈ wsL_law := List.mem_of_getElem? (i := 11) (by decide +kernel)
set_option maxRecDepth 100000 in
theorem wm_12 : Cond.classLink RX6 9 RX5 ∈ wsL_law := List.mem_of_getElem? (i := 12) (by decide +kernel)
set_option maxRecDepth 100000 in
theorem wm_13 : Cond.instantiable RX5 5 ∈ wsL_law := List.mem_of_getElem? (i := 13) (by decide +kernel)
set_option maxRecDepth 100000 in
theorem wm_14 : Cond.initialized RX5 ∈ wsL_law := List.mem_of_getElem? (i := 14) (by decide +kernel)
set_option maxRecDepth 100000 in
theorem wm_15 : Cond.fieldLink RX6 12 "IslandGrammar" "state" "LIslandGrammar$State;" ∈ wsL_law := List.mem_of_getElem? (i := 15) (by decide +kernel)
set_option maxRecDepth 100000 in
theorem wm_16 : Cond.classLink RX6 16 RX1 ∈ wsL_law := List.mem_of_getElem? (i := 16) (by decide +kernel)
set_option maxRecDepth 100000 in
theorem wm_17 : Cond.instantiable RX1 3 ∈ wsL_law := List.mem_of_getElem? (i := 17) (by decide +kernel)
set_option maxRecDepth 100000 in
theorem wm_18 : Cond.initialized RX1 ∈ wsL_law := List.mem_of_getElem? (i := 18) (by decide +kernel)
set_option maxRecDepth 100000 in
theorem wm_19 : Cond.fieldLink RX6 19 "IslandGrammar" "history" "LIslandGrammar$History;" ∈ wsL_law := List.mem_of_getElem? (i := 19) (by decide +kernel)
set_option maxRecDepth 100000 in
theorem wm_20 : Cond.classLink RX6 23 RX4 ∈ wsL_law := List.mem_of_getElem? (i := 20) (by decide +kernel)
set_option maxRecDepth 100000 in
theorem wm_21 : Cond.instantiable RX4 1 ∈ wsL_law := List.mem_of_getElem? (i := 21) (by decide +kernel)
set_option maxRecDepth 100000 in
theorem wm_22 : Cond.initialized RX4 ∈ wsL_law := List.mem_of_getElem? (i := 22) (by decide +kernel)
set_option maxRecDepth 100000 in
theorem wm_23 : Cond.fieldLink RX6 28 "IslandGrammar" "buffer" "LIslandGrammar$Row;" ∈ wsL_law := List.mem_of_getElem? (i := 23) (by decide +kernel)
set_option maxRecDepth 100000 in
theorem wm_24 : Cond.fieldLink RX6 32 "IslandGrammar" "errors" "LIslandGrammar$Row;" ∈ wsL_law := List.mem_of_getElem? (i := 24) (by decide +kernel)
set_option maxRecDepth 100000 in
theorem wm_25 : Cond.classLink RX6 35 RX2 ∈ wsL_law := List.mem_of_getElem? (i := 25) (by decide +kernel)
set_option maxRecDepth 100000 in
theorem wm_26 : Cond.instantiable RX2 5 ∈ wsL_law := List.mem_of_getElem? (i := 26) (by decide +kernel)
set_option maxRecDepth 100000 in
theorem wm_27 : Cond.initialized RX2 ∈ wsL_law := List.mem_of_getElem? (i := 27) (by decide +kernel)
set_option maxRecDepth 100000 in
theorem wm_28 : Cond.fieldLink RX6 40 "IslandGrammar" "matcher" "LIslandGrammar$Matcher;" ∈ wsL_law := List.mem_of_getElem? (i := 28) (by decide +kernel)
set_option maxRecDepth 100000 in
theorem wm_29 : Cond.classLink RX6 44 RX3 ∈ wsL_law := List.mem_of_getElem? (i := 29) (by decide +kernel)
set_option maxRecDepth 100000 in
theorem wm_30 : Cond.instantiable RX3 16 ∈ wsL_law := List.mem_of_getElem? (i := 30) (by decide +kernel)
set_option maxRecDepth 100000 in
theorem wm_31 : Cond.initialized RX3 ∈ wsL_law := List.mem_of_getElem? (i := 31) (by decide +kernel)
set_option maxRecDepth 100000 in
theorem wm_32 : Cond.fieldLink RX6 49 "IslandGrammar" "nodes" "LIslandGrammar$Nodes;" ∈ wsL_law := List.mem_of_getElem? (i := 32) (by decide +kernel)
set_option maxRecDepth 100000 in
theorem wm_33 : Cond.fieldLink RX6 53 "IslandGrammar" "bufferSize" "I" ∈ wsL_law := List.mem_of_getElem? (i := 33) (by decide +kernel)
set_option maxRecDepth 100000 in
theorem wm_34 : Cond.fieldLink RX6 57 "IslandGrammar" "stale" "Z" ∈ wsL_law := List.mem_of_getElem? (i := 34) (by decide +kernel)
set_option maxRecDepth 100000 in
theorem wm_35 : Cond.methodLink RX6 11 yX5_init ∈ wsL_law := List.mem_of_getElem? (i := 35) (by decide +kernel)
set_option maxRecDepth 100000 in
theorem wm_36 : Cond.instanceMethod yX5_init ∈ wsL_law := List.mem_of_getElem? (i := 36) (by decide +kernel)
set_option maxRecDepth 100000 in
theorem wm_37 : Cond.code yX5_init cX5_init 1 none ∈ wsL_law := List.mem_of_getElem? (i := 37) (by decide +kernel)
set_option maxRecDepth 100000 in
theorem wm_38 : Cond.methodLink RX5 3 objectInit ∈ wsL_law := List.mem_of_getElem? (i := 38) (by decide +kernel)
set_option maxRecDepth 100000 in
theorem wm_39 : Cond.classLink RX5 9 RX4 ∈ wsL_law := List.mem_of_getElem? (i := 39) (by decide +kernel)
set_option maxRecDepth 100000 in
theorem wm_40 : Cond.fieldLink RX5 14 "IslandGrammar$State" "text" "LIslandGrammar$Row;" ∈ wsL_law := List.mem_of_getElem? (i := 40) (by decide +kernel)
set_option maxRecDepth 100000 in
theorem wm_41 : Cond.fieldLink RX5 20 "IslandGrammar$State" "patternSizes" "LIslandGrammar$Row;" ∈ wsL_law := List.mem_of_getElem? (i := 41) (by decide +kernel)
set_option maxRecDepth 100000 in
theorem wm_42 : Cond.fieldLink RX5 23 "IslandGrammar$State" "patterns" "LIslandGrammar$Row;" ∈ wsL_law := List.mem_of_getElem? (i := 42) (by decide +kernel)
set_option maxRecDepth 100000 in
theorem wm_43 : Cond.fieldLink RX5 26 "IslandGrammar$State" "stops" "LIslandGrammar$Row;" ∈ wsL_law := List.mem_of_getElem? (i := 43) (by decide +kernel)
set_option maxRecDepth 100000 in
theorem wm_44 : Cond.fieldLink RX5 29 "IslandGrammar$State" "textSize" "I" ∈ wsL_law := List.mem_of_getElem? (i := 44) (by decide +kernel)
set_option maxRecDepth 100000 in
theorem wm_45 : Cond.methodLink RX5 11 yX4_init ∈ wsL_law := List.mem_of_getElem? (i := 45) (by decide +kernel)
set_option maxRecDepth 100000 in
theorem wm_46 : Cond.instanceMethod yX4_init ∈ wsL_law := List.mem_of_getElem? (i := 46) (by decide +kernel)
set_option maxRecDepth 100000 in
theorem wm_47 : Cond.code yX4_init cX4_init 2 none ∈ wsL_law := List.mem_of_getElem? (i := 47) (by decide +kernel)
set_option maxRecDepth 100000 in
theorem wm_48 : Cond.methodLink RX4 3 objectInit ∈ wsL_law := List.mem_of_getElem? (i := 48) (by decide +kernel)
set_option maxRecDepth 100000 in
theorem wm_49 : Cond.arrayClass .int ∈ wsL_law := List.mem_of_getElem? (i := 49) (by decide +kernel)
set_option maxRecDepth 100000 in
theorem wm_50 : Cond.fieldLink RX4 9 "IslandGrammar$Row" "cells" "[I" ∈ wsL_law := List.mem_of_getElem? (i := 50) (by decide +kernel)
set_option maxRecDepth 100000 in
theorem wm_51 : Cond.methodLink RX5 33 yX4_fill ∈ wsL_law := List.mem_of_getElem? (i := 51) (by decide +kernel)
set_option maxRecDepth 100000 in
theorem wm_52 : Cond.instanceMethod yX4_fill ∈ wsL_law := List.mem_of_getElem? (i := 52) (by decide +kernel)
set_option maxRecDepth 100000 in
theorem wm_53 : Cond.selects RX4 yX4_fill yX4_fill ∈ wsL_law := List.mem_of_getElem? (i := 53) (by decide +kernel)
set_option maxRecDepth 100000 in
theorem wm_54 : Cond.code yX4_fill cX4_fill 3 none ∈ wsL_law := List.mem_of_getElem? (i := 54) (by decide +kernel)
set_option maxRecDepth 100000 in
theorem wm_55 : Cond.instanceMethod yX1_init ∈ wsL_law := List.mem_of_getElem? (i := 55) (by decide +kernel)
set_option maxRecDepth 100000 in
theorem wm_56 : Cond.code yX1_init cX1_init 1 none ∈ wsL_law := List.mem_of_getElem? (i := 56) (by decide +kernel)
set_option maxRecDepth 100000 in
theorem wm_57 : Cond.methodLink RX1 3 objectInit ∈ wsL_law := List.mem_of_getElem? (i := 57) (by decide +kernel)
set_option maxRecDepth 100000 in
theorem wm_58 : Cond.classLink RX1 9 RX5 ∈ wsL_law := List.mem_of_getElem? (i := 58) (by decide +kernel)
set_option maxRecDepth 100000 in
theorem wm_59 : Cond.fieldLink RX1 12 "IslandGrammar$History" "ring" "[LIslandGrammar$State;" ∈ wsL_law := List.mem_of_getElem? (i := 59) (by decide +kernel)
set_option maxRecDepth 100000 in
theorem wm_60 : Cond.fieldLink RX1 18 "IslandGrammar$History" "next" "I" ∈ wsL_law := List.mem_of_getElem? (i := 60) (by decide +kernel)
set_option maxRecDepth 100000 in
theorem wm_61 : Cond.fieldLink RX1 22 "IslandGrammar$History" "count" "I" ∈ wsL_law := List.mem_of_getElem? (i := 61) (by decide +kernel)
set_option maxRecDepth 100000 in
theorem wm_62 : Cond.methodLink RX1 11 yX5_init ∈ wsL_law := List.mem_of_getElem? (i := 62) (by decide +kernel)
set_option maxRecDepth 100000 in
theorem wm_63 : Cond.methodLink RX6 25 yX4_init ∈ wsL_law := List.mem_of_getElem? (i := 63) (by decide +kernel)
set_option maxRecDepth 100000 in
theorem wm_64 : Cond.methodLink RX6 37 yX2_init ∈ wsL_law := List.mem_of_getElem? (i := 64) (by decide +kernel)
set_option maxRecDepth 100000 in
theorem wm_65 : Cond.instanceMethod yX2_init ∈ wsL_law := List.mem_of_getElem? (i := 65) (by decide +kernel)
set_option maxRecDepth 100000 in
theorem wm_66 : Cond.code yX2_init cX2_init 2 none ∈ wsL_law := List.mem_of_getElem? (i := 66) (by decide +kernel)
set_option maxRecDepth 100000 in
theorem wm_67 : Cond.methodLink RX2 3 objectInit ∈ wsL_law := List.mem_of_getElem? (i := 67) (by decide +kernel)
set_option maxRecDepth 100000 in
theorem wm_68 : Cond.classLink RX2 9 RX4 ∈ wsL_law := List.mem_of_getElem? (i := 68) (by decide +kernel)
set_option maxRecDepth 100000 in
theorem wm_69 : Cond.fieldLink RX2 14 "IslandGrammar$Matcher" "digitEnds" "LIslandGrammar$Row;" ∈ wsL_law := List.mem_of_getElem? (i := 69) (by decide +kernel)
set_option maxRecDepth 100000 in
theorem wm_70 : Cond.fieldLink RX2 20 "IslandGrammar$Matcher" "letterEnds" "LIslandGrammar$Row;" ∈ wsL_law := List.mem_of_getElem? (i := 70) (by decide +kernel)
set_option maxRecDepth 100000 in
theorem wm_71 : Cond.fieldLink RX2 23 "IslandGrammar$Matcher" "firstRules" "LIslandGrammar$Row;" ∈ wsL_law := List.mem_of_getElem? (i := 71) (by decide +kernel)
set_option maxRecDepth 100000 in
theorem wm_72 : Cond.classLink RX2 26 RX0 ∈ wsL_law := List.mem_of_getElem? (i := 72) (by decide +kernel)
set_option maxRecDepth 100000 in
theorem wm_73 : Cond.instantiable RX0 1 ∈ wsL_law := List.mem_of_getElem? (i := 73) (by decide +kernel)
set_option maxRecDepth 100000 in
theorem wm_74 : Cond.initialized RX0 ∈ wsL_law := List.mem_of_getElem? (i := 74) (by decide +kernel)
set_option maxRecDepth 100000 in
theorem wm_75 : Cond.fieldLink RX2 29 "IslandGrammar$Matcher" "restEnds" "LIslandGrammar$EndTable;" ∈ wsL_law := List.mem_of_getElem? (i := 75) (by decide +kernel)
set_option maxRecDepth 100000 in
theorem wm_76 : Cond.fieldLink RX2 33 "IslandGrammar$Matcher" "state" "LIslandGrammar$State;" ∈ wsL_law := List.mem_of_getElem? (i := 76) (by decide +kernel)
set_option maxRecDepth 100000 in
theorem wm_77 : Cond.methodLink RX2 11 yX4_init ∈ wsL_law := List.mem_of_getElem? (i := 77) (by decide +kernel)
set_option maxRecDepth 100000 in
theorem wm_78 : Cond.instanceMethod yX0_init ∈ wsL_law := List.mem_of_getElem? (i := 78) (by decide +kernel)
set_option maxRecDepth 100000 in
theorem wm_79 : Cond.code yX0_init cX0_init 1 none ∈ wsL_law := List.mem_of_getElem? (i := 79) (by decide +kernel)
set_option maxRecDepth 100000 in
theorem wm_80 : Cond.methodLink RX0 3 objectInit ∈ wsL_law := List.mem_of_getElem? (i := 80) (by decide +kernel)
set_option maxRecDepth 100000 in
theorem wm_81 : Cond.fieldLink RX0 11 "IslandGrammar$EndTable" "cells" "[I" ∈ wsL_law := List.mem_of_getElem? (i := 81) (by decide +kernel)
set_option maxRecDepth 100000 in
theorem wm_82 : Cond.methodLink RX6 46 yX3_init ∈ wsL_law := List.mem_of_getElem? (i := 82) (by decide +kernel)
set_option maxRecDepth 100000 in
theorem wm_83 : Cond.instanceMethod yX3_init ∈ wsL_law := List.mem_of_getElem? (i := 83) (by decide +kernel)
set_option maxRecDepth 100000 in
theorem wm_84 : Cond.code yX3_init cX3_init 3 none ∈ wsL_law := List.mem_of_getElem? (i := 84) (by decide +kernel)
set_option maxRecDepth 100000 in
theorem wm_85 : Cond.methodLink RX3 3 objectInit ∈ wsL_law := List.mem_of_getElem? (i := 85) (by decide +kernel)
set_option maxRecDepth 100000 in
theorem wm_86 : Cond.classLink RX3 9 RX4 ∈ wsL_law := List.mem_of_getElem? (i := 86) (by decide +kernel)
set_option maxRecDepth 100000 in
theorem wm_87 : Cond.fieldLink RX3 14 "IslandGrammar$Nodes" "rules" "LIslandGrammar$Row;" ∈ wsL_law := List.mem_of_getElem? (i := 87) (by decide +kernel)
set_option maxRecDepth 100000 in
theorem wm_88 : Cond.fieldLink RX3 20 "IslandGrammar$Nodes" "starts" "LIslandGrammar$Row;" ∈ wsL_law := List.mem_of_getElem? (i := 88) (by decide +kernel)
set_option maxRecDepth 100000 in
theorem wm_89 : Cond.fieldLink RX3 23 "IslandGrammar$Nodes" "ends" "LIslandGrammar$Row;" ∈ wsL_law := List.mem_of_getElem? (i := 89) (by decide +kernel)
set_option maxRecDepth 100000 in
theorem wm_90 : Cond.fieldLink RX3 26 "IslandGrammar$Nodes" "parents" "LIslandGrammar$Row;" ∈ wsL_law := List.mem_of_getElem? (i := 90) (by decide +kernel)
set_option maxRecDepth 100000 in
theorem wm_91 : Cond.fieldLink RX3 29 "IslandGrammar$Nodes" "depths" "LIslandGrammar$Row;" ∈ wsL_law := List.mem_of_getElem? (i := 91) (by decide +kernel)
set_option maxRecDepth 100000 in
theorem wm_92 : Cond.fieldLink RX3 32 "IslandGrammar$Nodes" "waters" "LIslandGrammar$Row;" ∈ wsL_law := List.mem_of_getElem? (i := 92) (by decide +kernel)
set_option maxRecDepth 100000 in
theorem wm_93 : Cond.fieldLink RX3 35 "IslandGrammar$Nodes" "numbers" "LIslandGrammar$Row;" ∈ wsL_law := List.mem_of_getElem? (i := 93) (by decide +kernel)
set_option maxRecDepth 100000 in
theorem wm_94 : Cond.fieldLink RX3 38 "IslandGrammar$Nodes" "dueRules" "LIslandGrammar$Row;" ∈ wsL_law := List.mem_of_getElem? (i := 94) (by decide +kernel)
set_option maxRecDepth 100000 in
theorem wm_95 : Cond.fieldLink RX3 41 "IslandGrammar$Nodes" "dueParents" "LIslandGrammar$Row;" ∈ wsL_law := List.mem_of_getElem? (i := 95) (by decide +kernel)
set_option maxRecDepth 100000 in
theorem wm_96 : Cond.fieldLink RX3 44 "IslandGrammar$Nodes" "count" "I" ∈ wsL_law := List.mem_of_getElem? (i := 96) (by decide +kernel)
set_option maxRecDepth 100000 in
theorem wm_97 : Cond.fieldLink RX3 48 "IslandGrammar$Nodes" "topIslands" "I" ∈ wsL_law := List.mem_of_getElem? (i := 97) (by decide +kernel)
set_option maxRecDepth 100000 in
theorem wm_98 : Cond.fieldLink RX3 51 "IslandGrammar$Nodes" "topWater" "I" ∈ wsL_law := List.mem_of_getElem? (i := 98) (by decide +kernel)
set_option maxRecDepth 100000 in
theorem wm_99 : Cond.fieldLink RX3 54 "IslandGrammar$Nodes" "waterRun" "I" ∈ wsL_law := List.mem_of_getElem? (i := 99) (by decide +kernel)
set_option maxRecDepth 100000 in
theorem wm_100 : Cond.fieldLink RX3 57 "IslandGrammar$Nodes" "longestRun" "I" ∈ wsL_law := List.mem_of_getElem? (i := 100) (by decide +kernel)
set_option maxRecDepth 100000 in
theorem wm_101 : Cond.fieldLink RX3 60 "IslandGrammar$Nodes" "state" "LIslandGrammar$State;" ∈ wsL_law := List.mem_of_getElem? (i := 101) (by decide +kernel)
set_option maxRecDepth 100000 in
theorem wm_102 : Cond.fieldLink RX3 64 "IslandGrammar$Nodes" "matcher" "LIslandGrammar$Matcher;" ∈ wsL_law := List.mem_of_getElem? (i := 102) (by decide +kernel)
set_option maxRecDepth 100000 in
theorem wm_103 : Cond.methodLink RX3 11 yX4_init ∈ wsL_law := List.mem_of_getElem? (i := 103) (by decide +kernel)
set_option maxRecDepth 100000 in
theorem wm_104 : Cond.methodLink RL 12 yX7_init ∈ wsL_law := List.mem_of_getElem? (i := 104) (by decide +kernel)
set_option maxRecDepth 100000 in
theorem wm_105 : Cond.instanceMethod yX7_init ∈ wsL_law := List.mem_of_getElem? (i := 105) (by decide +kernel)
set_option maxRecDepth 100000 in
theorem wm_106 : Cond.code yX7_init cX7_init 2 none ∈ wsL_law := List.mem_of_getElem? (i := 106) (by decide +kernel)
set_option maxRecDepth 100000 in
theorem wm_107 : Cond.methodLink RX7 1 objectInit ∈ wsL_law := List.mem_of_getElem? (i := 107) (by decide +kernel)
set_option maxRecDepth 100000 in
theorem wm_108 : Cond.fieldLink RX7 7 "IslandGrammarModel" "now" "[I" ∈ wsL_law := List.mem_of_getElem? (i := 108) (by decide +kernel)
set_option maxRecDepth 100000 in
theorem wm_109 : Cond.fieldLink RX7 13 "IslandGrammarModel" "history" "[I" ∈ wsL_law := List.mem_of_getElem? (i := 109) (by decide +kernel)
set_option maxRecDepth 100000 in
theorem wm_110 : Cond.fieldLink RX7 16 "IslandGrammarModel" "pattern" "[I" ∈ wsL_law := List.mem_of_getElem? (i := 110) (by decide +kernel)
set_option maxRecDepth 100000 in
theorem wm_111 : Cond.fieldLink RX7 19 "IslandGrammarModel" "errors" "[I" ∈ wsL_law := List.mem_of_getElem? (i := 111) (by decide +kernel)
set_option maxRecDepth 100000 in
theorem wm_112 : Cond.fieldLink RX7 22 "IslandGrammarModel" "ends" "[I" ∈ wsL_law := List.mem_of_getElem? (i := 112) (by decide +kernel)
set_option maxRecDepth 100000 in
theorem wm_113 : Cond.fieldLink RX7 25 "IslandGrammarModel" "foundRule" "[I" ∈ wsL_law := List.mem_of_getElem? (i := 113) (by decide +kernel)
set_option maxRecDepth 100000 in
theorem wm_114 : Cond.fieldLink RX7 28 "IslandGrammarModel" "foundStart" "[I" ∈ wsL_law := List.mem_of_getElem? (i := 114) (by decide +kernel)
set_option maxRecDepth 100000 in
theorem wm_115 : Cond.fieldLink RX7 31 "IslandGrammarModel" "foundParent" "[I" ∈ wsL_law := List.mem_of_getElem? (i := 115) (by decide +kernel)
set_option maxRecDepth 100000 in
theorem wm_116 : Cond.fieldLink RX7 34 "IslandGrammarModel" "foundWater" "[I" ∈ wsL_law := List.mem_of_getElem? (i := 116) (by decide +kernel)
set_option maxRecDepth 100000 in
theorem wm_117 : Cond.fieldLink RX7 37 "IslandGrammarModel" "foundNumber" "[I" ∈ wsL_law := List.mem_of_getElem? (i := 117) (by decide +kernel)
set_option maxRecDepth 100000 in
theorem wm_118 : Cond.methodLink RL 13 yX6_insert ∈ wsL_law := List.mem_of_getElem? (i := 118) (by decide +kernel)
set_option maxRecDepth 100000 in
theorem wm_119 : Cond.instanceMethod yX6_insert ∈ wsL_law := List.mem_of_getElem? (i := 119) (by decide +kernel)
set_option maxRecDepth 100000 in
theorem wm_120 : Cond.selects RX6 yX6_insert yX6_insert ∈ wsL_law := List.mem_of_getElem? (i := 120) (by decide +kernel)
set_option maxRecDepth 100000 in
theorem wm_121 : Cond.code yX6_insert cX6_insert 3 (some .int) ∈ wsL_law := List.mem_of_getElem? (i := 121) (by decide +kernel)
set_option maxRecDepth 100000 in
theorem wm_122 : Cond.methodLink RX6 61 yX5_textSize ∈ wsL_law := List.mem_of_getElem? (i := 122) (by decide +kernel)
set_option maxRecDepth 100000 in
theorem wm_123 : Cond.instanceMethod yX5_textSize ∈ wsL_law := List.mem_of_getElem? (i := 123) (by decide +kernel)
set_option maxRecDepth 100000 in
theorem wm_124 : Cond.selects RX5 yX5_textSize yX5_textSize ∈ wsL_law := List.mem_of_getElem? (i := 124) (by decide +kernel)
set_option maxRecDepth 100000 in
theorem wm_125 : Cond.code yX5_textSize cX5_textSize 1 (some .int) ∈ wsL_law := List.mem_of_getElem? (i := 125) (by decide +kernel)
set_option maxRecDepth 100000 in
theorem wm_126 : Cond.methodLink RX6 65 yX6_isByte ∈ wsL_law := List.mem_of_getElem? (i := 126) (by decide +kernel)
set_option maxRecDepth 100000 in
theorem wm_127 : Cond.static yX6_isByte ∈ wsL_law := List.mem_of_getElem? (i := 127) (by decide +kernel)
set_option maxRecDepth 100000 in
theorem wm_128 : Cond.code yX6_isByte cX6_isByte 1 (some .boolean) ∈ wsL_law := List.mem_of_getElem? (i := 128) (by decide +kernel)
set_option maxRecDepth 100000 in
theorem wm_129 : Cond.methodLink RX6 69 yX6_fail ∈ wsL_law := List.mem_of_getElem? (i := 129) (by decide +kernel)
set_option maxRecDepth 100000 in
theorem wm_130 : Cond.instanceMethod yX6_fail ∈ wsL_law := List.mem_of_getElem? (i := 130) (by decide +kernel)
set_option maxRecDepth 100000 in
theorem wm_131 : Cond.selects RX6 yX6_fail yX6_fail ∈ wsL_law := List.mem_of_getElem? (i := 131) (by decide +kernel)
set_option maxRecDepth 100000 in
theorem wm_132 : Cond.code yX6_fail cX6_fail 3 (some .int) ∈ wsL_law := List.mem_of_getElem? (i := 132) (by decide +kernel)
set_option maxRecDepth 100000 in
theorem wm_133 : Cond.methodLink RX6 98 yX4_get ∈ wsL_law := List.mem_of_getElem? (i := 133) (by decide +kernel)
set_option maxRecDepth 100000 in
theorem wm_134 : Cond.instanceMethod yX4_get ∈ wsL_law := List.mem_of_getElem? (i := 134) (by decide +kernel)
set_option maxRecDepth 100000 in
theorem wm_135 : Cond.selects RX4 yX4_get yX4_get ∈ wsL_law := List.mem_of_getElem? (i := 135) (by decide +kernel)
set_option maxRecDepth 100000 in
theorem wm_136 : Cond.code yX4_get cX4_get 2 (some .int) ∈ wsL_law := List.mem_of_getElem? (i := 136) (by decide +kernel)
set_option maxRecDepth 100000 in
theorem wm_137 : Cond.methodLink RX6 92 yX4_set ∈ wsL_law := List.mem_of_getElem? (i := 137) (by decide +kernel)
set_option maxRecDepth 100000 in
theorem wm_138 : Cond.instanceMethod yX4_set ∈ wsL_law := List.mem_of_getElem? (i := 138) (by decide +kernel)
set_option maxRecDepth 100000 in
theorem wm_139 : Cond.selects RX4 yX4_set yX4_set ∈ wsL_law := List.mem_of_getElem? (i := 139) (by decide +kernel)
set_option maxRecDepth 100000 in
theorem wm_140 : Cond.code yX4_set cX4_set 3 none ∈ wsL_law := List.mem_of_getElem? (i := 140) (by decide +kernel)
set_option maxRecDepth 100000 in
theorem wm_141 : Cond.methodLink RX6 73 yX6_prepareChange ∈ wsL_law := List.mem_of_getElem? (i := 141) (by decide +kernel)
set_option maxRecDepth 100000 in
theorem wm_142 : Cond.instanceMethod yX6_prepareChange ∈ wsL_law := List.mem_of_getElem? (i := 142) (by decide +kernel)
set_option maxRecDepth 100000 in
theorem wm_143 : Cond.selects RX6 yX6_prepareChange yX6_prepareChange ∈ wsL_law := List.mem_of_getElem? (i := 143) (by decide +kernel)
set_option maxRecDepth 100000 in
theorem wm_144 : Cond.code yX6_prepareChange cX6_prepareChange 1 none ∈ wsL_law := List.mem_of_getElem? (i := 144) (by decide +kernel)
set_option maxRecDepth 100000 in
theorem wm_145 : Cond.methodLink RX6 194 yX1_save ∈ wsL_law := List.mem_of_getElem? (i := 145) (by decide +kernel)
set_option maxRecDepth 100000 in
theorem wm_146 : Cond.instanceMethod yX1_save ∈ wsL_law := List.mem_of_getElem? (i := 146) (by decide +kernel)
set_option maxRecDepth 100000 in
theorem wm_147 : Cond.selects RX1 yX1_save yX1_save ∈ wsL_law := List.mem_of_getElem? (i := 147) (by decide +kernel)
set_option maxRecDepth 100000 in
theorem wm_148 : Cond.code yX1_save cX1_save 2 none ∈ wsL_law := List.mem_of_getElem? (i := 148) (by decide +kernel)
set_option maxRecDepth 100000 in
theorem wm_149 : Cond.methodLink RX1 33 Lib.Math.min.name ∈ wsL_law := List.mem_of_getElem? (i := 149) (by decide +kernel)
set_option maxRecDepth 100000 in
theorem wm_150 : Cond.static Lib.Math.min.name ∈ wsL_law := List.mem_of_getElem? (i := 150) (by decide +kernel)
set_option maxRecDepth 100000 in
theorem wm_151 : Cond.initialized "java/lang/Math" ∈ wsL_law := List.mem_of_getElem? (i := 151) (by decide +kernel)
set_option maxRecDepth 100000 in
theorem wm_152 : Cond.code Lib.Math.min.name Lib.Math.min.code 2 (some .int) ∈ wsL_law := List.mem_of_getElem? (i := 152) (by decide +kernel)
set_option maxRecDepth 100000 in
theorem wm_153 : Cond.methodLink RX1 25 yX1_slotAt ∈ wsL_law := List.mem_of_getElem? (i := 153) (by decide +kernel)
set_option maxRecDepth 100000 in
theorem wm_154 : Cond.instanceMethod yX1_slotAt ∈ wsL_law := List.mem_of_getElem? (i := 154) (by decide +kernel)
set_option maxRecDepth 100000 in
theorem wm_155 : Cond.selects RX1 yX1_slotAt yX1_slotAt ∈ wsL_law := List.mem_of_getElem? (i := 155) (by decide +kernel)
set_option maxRecDepth 100000 in
theorem wm_156 : Cond.code yX1_slotAt cX1_slotAt 2 (some (.object "IslandGrammar$State")) ∈ wsL_law := List.mem_of_getElem? (i := 156) (by decide +kernel)
set_option maxRecDepth 100000 in
theorem wm_157 : Cond.methodLink RX1 29 yX5_copyFrom ∈ wsL_law := List.mem_of_getElem? (i := 157) (by decide +kernel)
set_option maxRecDepth 100000 in
theorem wm_158 : Cond.instanceMethod yX5_copyFrom ∈ wsL_law := List.mem_of_getElem? (i := 158) (by decide +kernel)
set_option maxRecDepth 100000 in
theorem wm_159 : Cond.selects RX5 yX5_copyFrom yX5_copyFrom ∈ wsL_law := List.mem_of_getElem? (i := 159) (by decide +kernel)
set_option maxRecDepth 100000 in
theorem wm_160 : Cond.code yX5_copyFrom cX5_copyFrom 2 none ∈ wsL_law := List.mem_of_getElem? (i := 160) (by decide +kernel)
set_option maxRecDepth 100000 in
theorem wm_161 : Cond.methodLink RX5 48 yX4_copyFrom ∈ wsL_law := List.mem_of_getElem? (i := 161) (by decide +kernel)
set_option maxRecDepth 100000 in
theorem wm_162 : Cond.instanceMethod yX4_copyFrom ∈ wsL_law := List.mem_of_getElem? (i := 162) (by decide +kernel)
set_option maxRecDepth 100000 in
theorem wm_163 : Cond.selects RX4 yX4_copyFrom yX4_copyFrom ∈ wsL_law := List.mem_of_getElem? (i := 163) (by decide +kernel)
set_option maxRecDepth 100000 in
theorem wm_164 : Cond.code yX4_copyFrom cX4_copyFrom 4 none ∈ wsL_law := List.mem_of_getElem? (i := 164) (by decide +kernel)
set_option maxRecDepth 100000 in
theorem wm_165 : Cond.methodLink RX4 15 Lib.Math.min.name ∈ wsL_law := List.mem_of_getElem? (i := 165) (by decide +kernel)
set_option maxRecDepth 100000 in
theorem wm_166 : Cond.methodLink RX6 76 yX5_insertByte ∈ wsL_law := List.mem_of_getElem? (i := 166) (by decide +kernel)
set_option maxRecDepth 100000 in
theorem wm_167 : Cond.instanceMethod yX5_insertByte ∈ wsL_law := List.mem_of_getElem? (i := 167) (by decide +kernel)
set_option maxRecDepth 100000 in
theorem wm_168 : Cond.selects RX5 yX5_insertByte yX5_insertByte ∈ wsL_law := List.mem_of_getElem? (i := 168) (by decide +kernel)
set_option maxRecDepth 100000 in
theorem wm_169 : Cond.code yX5_insertByte cX5_insertByte 4 none ∈ wsL_law := List.mem_of_getElem? (i := 169) (by decide +kernel)
set_option maxRecDepth 100000 in
theorem wm_170 : Cond.methodLink RX5 36 yX4_get ∈ wsL_law := List.mem_of_getElem? (i := 170) (by decide +kernel)
set_option maxRecDepth 100000 in
theorem wm_171 : Cond.methodLink RX5 40 yX4_set ∈ wsL_law := List.mem_of_getElem? (i := 171) (by decide +kernel)
set_option maxRecDepth 100000 in
theorem wm_172 : Cond.methodLink RL 17 yX7_insert ∈ wsL_law := List.mem_of_getElem? (i := 172) (by decide +kernel)
set_option maxRecDepth 100000 in
theorem wm_173 : Cond.instanceMethod yX7_insert ∈ wsL_law := List.mem_of_getElem? (i := 173) (by decide +kernel)
set_option maxRecDepth 100000 in
theorem wm_174 : Cond.selects RX7 yX7_insert yX7_insert ∈ wsL_law := List.mem_of_getElem? (i := 174) (by decide +kernel)
set_option maxRecDepth 100000 in
theorem wm_175 : Cond.code yX7_insert cX7_insert 4 (some .int) ∈ wsL_law := List.mem_of_getElem? (i := 175) (by decide +kernel)
set_option maxRecDepth 100000 in
theorem wm_176 : Cond.methodLink RX7 44 yX7_in ∈ wsL_law := List.mem_of_getElem? (i := 176) (by decide +kernel)
set_option maxRecDepth 100000 in
theorem wm_177 : Cond.static yX7_in ∈ wsL_law := List.mem_of_getElem? (i := 177) (by decide +kernel)
set_option maxRecDepth 100000 in
theorem wm_178 : Cond.code yX7_in cX7_in 3 (some .boolean) ∈ wsL_law := List.mem_of_getElem? (i := 178) (by decide +kernel)
set_option maxRecDepth 100000 in
theorem wm_179 : Cond.methodLink RX7 48 yX7_isByte ∈ wsL_law := List.mem_of_getElem? (i := 179) (by decide +kernel)
set_option maxRecDepth 100000 in
theorem wm_180 : Cond.static yX7_isByte ∈ wsL_law := List.mem_of_getElem? (i := 180) (by decide +kernel)
set_option maxRecDepth 100000 in
theorem wm_181 : Cond.code yX7_isByte cX7_isByte 1 (some .boolean) ∈ wsL_law := List.mem_of_getElem? (i := 181) (by decide +kernel)
set_option maxRecDepth 100000 in
theorem wm_182 : Cond.methodLink RX7 52 yX7_fail ∈ wsL_law := List.mem_of_getElem? (i := 182) (by decide +kernel)
set_option maxRecDepth 100000 in
theorem wm_183 : Cond.instanceMethod yX7_fail ∈ wsL_law := List.mem_of_getElem? (i := 183) (by decide +kernel)
set_option maxRecDepth 100000 in
theorem wm_184 : Cond.selects RX7 yX7_fail yX7_fail ∈ wsL_law := List.mem_of_getElem? (i := 184) (by decide +kernel)
set_option maxRecDepth 100000 in
theorem wm_185 : Cond.code yX7_fail cX7_fail 2 (some .int) ∈ wsL_law := List.mem_of_getElem? (i := 185) (by decide +kernel)
set_option maxRecDepth 100000 in
theorem wm_186 : Cond.methodLink RX7 56 yX7_save ∈ wsL_law := List.mem_of_getElem? (i := 186) (by decide +kernel)
set_option maxRecDepth 100000 in
theorem wm_187 : Cond.instanceMethod yX7_save ∈ wsL_law := List.mem_of_getElem? (i := 187) (by decide +kernel)
set_option maxRecDepth 100000 in
theorem wm_188 : Cond.selects RX7 yX7_save yX7_save ∈ wsL_law := List.mem_of_getElem? (i := 188) (by decide +kernel)
set_option maxRecDepth 100000 in
theorem wm_189 : Cond.code yX7_save cX7_save 2 none ∈ wsL_law := List.mem_of_getElem? (i := 189) (by decide +kernel)
set_option maxRecDepth 100000 in
theorem wm_190 : Cond.fieldLink RX7 40 "IslandGrammarModel" "depth" "I" ∈ wsL_law := List.mem_of_getElem? (i := 190) (by decide +kernel)
set_option maxRecDepth 100000 in
theorem wm_191 : Cond.methodLink RL 18 yX6_replace ∈ wsL_law := List.mem_of_getElem? (i := 191) (by decide +kernel)
set_option maxRecDepth 100000 in
theorem wm_192 : Cond.instanceMethod yX6_replace ∈ wsL_law := List.mem_of_getElem? (i := 192) (by decide +kernel)
set_option maxRecDepth 100000 in
theorem wm_193 : Cond.selects RX6 yX6_replace yX6_replace ∈ wsL_law := List.mem_of_getElem? (i := 193) (by decide +kernel)
set_option maxRecDepth 100000 in
theorem wm_194 : Cond.code yX6_replace cX6_replace 4 (some .int) ∈ wsL_law := List.mem_of_getElem? (i := 194) (by decide +kernel)
set_option maxRecDepth 100000 in
theorem wm_195 : Cond.methodLink RX6 80 yX6_isInText ∈ wsL_law := List.mem_of_getElem? (i := 195) (by decide +kernel)
set_option maxRecDepth 100000 in
theorem wm_196 : Cond.instanceMethod yX6_isInText ∈ wsL_law := List.mem_of_getElem? (i := 196) (by decide +kernel)
set_option maxRecDepth 100000 in
theorem wm_197 : Cond.selects RX6 yX6_isInText yX6_isInText ∈ wsL_law := List.mem_of_getElem? (i := 197) (by decide +kernel)
set_option maxRecDepth 100000 in
theorem wm_198 : Cond.code yX6_isInText cX6_isInText 2 (some .boolean) ∈ wsL_law := List.mem_of_getElem? (i := 198) (by decide +kernel)
set_option maxRecDepth 100000 in
theorem wm_199 : Cond.methodLink RX6 83 yX5_textAt ∈ wsL_law := List.mem_of_getElem? (i := 199) (by decide +kernel)
set_option maxRecDepth 100000 in
theorem wm_200 : Cond.instanceMethod yX5_textAt ∈ wsL_law := List.mem_of_getElem? (i := 200) (by decide +kernel)
set_option maxRecDepth 100000 in
theorem wm_201 : Cond.selects RX5 yX5_textAt yX5_textAt ∈ wsL_law := List.mem_of_getElem? (i := 201) (by decide +kernel)
set_option maxRecDepth 100000 in
theorem wm_202 : Cond.code yX5_textAt cX5_textAt 2 (some .int) ∈ wsL_law := List.mem_of_getElem? (i := 202) (by decide +kernel)
set_option maxRecDepth 100000 in
theorem wm_203 : Cond.methodLink RX6 86 yX5_setByte ∈ wsL_law := List.mem_of_getElem? (i := 203) (by decide +kernel)
set_option maxRecDepth 100000 in
theorem wm_204 : Cond.instanceMethod yX5_setByte ∈ wsL_law := List.mem_of_getElem? (i := 204) (by decide +kernel)
set_option maxRecDepth 100000 in
theorem wm_205 : Cond.selects RX5 yX5_setByte yX5_setByte ∈ wsL_law := List.mem_of_getElem? (i := 205) (by decide +kernel)
set_option maxRecDepth 100000 in
theorem wm_206 : Cond.code yX5_setByte cX5_setByte 3 none ∈ wsL_law := List.mem_of_getElem? (i := 206) (by decide +kernel)
set_option maxRecDepth 100000 in
theorem wm_207 : Cond.methodLink RL 21 yX7_replace ∈ wsL_law := List.mem_of_getElem? (i := 207) (by decide +kernel)
set_option maxRecDepth 100000 in
theorem wm_208 : Cond.instanceMethod yX7_replace ∈ wsL_law := List.mem_of_getElem? (i := 208) (by decide +kernel)
set_option maxRecDepth 100000 in
theorem wm_209 : Cond.selects RX7 yX7_replace yX7_replace ∈ wsL_law := List.mem_of_getElem? (i := 209) (by decide +kernel)
set_option maxRecDepth 100000 in
theorem wm_210 : Cond.code yX7_replace cX7_replace 4 (some .int) ∈ wsL_law := List.mem_of_getElem? (i := 210) (by decide +kernel)
set_option maxRecDepth 100000 in
theorem wm_211 : Cond.methodLink RX7 59 yX7_isPosition ∈ wsL_law := List.mem_of_getElem? (i := 211) (by decide +kernel)
set_option maxRecDepth 100000 in
theorem wm_212 : Cond.instanceMethod yX7_isPosition ∈ wsL_law := List.mem_of_getElem? (i := 212) (by decide +kernel)
set_option maxRecDepth 100000 in
theorem wm_213 : Cond.selects RX7 yX7_isPosition yX7_isPosition ∈ wsL_law := List.mem_of_getElem? (i := 213) (by decide +kernel)
set_option maxRecDepth 100000 in
theorem wm_214 : Cond.code yX7_isPosition cX7_isPosition 2 (some .boolean) ∈ wsL_law := List.mem_of_getElem? (i := 214) (by decide +kernel)
set_option maxRecDepth 100000 in
theorem wm_215 : Cond.methodLink RL 22 yX6_delete ∈ wsL_law := List.mem_of_getElem? (i := 215) (by decide +kernel)
set_option maxRecDepth 100000 in
theorem wm_216 : Cond.instanceMethod yX6_delete ∈ wsL_law := List.mem_of_getElem? (i := 216) (by decide +kernel)
set_option maxRecDepth 100000 in
theorem wm_217 : Cond.selects RX6 yX6_delete yX6_delete ∈ wsL_law := List.mem_of_getElem? (i := 217) (by decide +kernel)
set_option maxRecDepth 100000 in
theorem wm_218 : Cond.code yX6_delete cX6_delete 3 (some .int) ∈ wsL_law := List.mem_of_getElem? (i := 218) (by decide +kernel)
set_option maxRecDepth 100000 in
theorem wm_219 : Cond.methodLink RX6 89 yX5_removeBytes ∈ wsL_law := List.mem_of_getElem? (i := 219) (by decide +kernel)
set_option maxRecDepth 100000 in
theorem wm_220 : Cond.instanceMethod yX5_removeBytes ∈ wsL_law := List.mem_of_getElem? (i := 220) (by decide +kernel)
set_option maxRecDepth 100000 in
theorem wm_221 : Cond.selects RX5 yX5_removeBytes yX5_removeBytes ∈ wsL_law := List.mem_of_getElem? (i := 221) (by decide +kernel)
set_option maxRecDepth 100000 in
theorem wm_222 : Cond.code yX5_removeBytes cX5_removeBytes 4 none ∈ wsL_law := List.mem_of_getElem? (i := 222) (by decide +kernel)
set_option maxRecDepth 100000 in
theorem wm_223 : Cond.methodLink RL 25 yX7_delete ∈ wsL_law := List.mem_of_getElem? (i := 223) (by decide +kernel)
set_option maxRecDepth 100000 in
theorem wm_224 : Cond.instanceMethod yX7_delete ∈ wsL_law := List.mem_of_getElem? (i := 224) (by decide +kernel)
set_option maxRecDepth 100000 in
theorem wm_225 : Cond.selects RX7 yX7_delete yX7_delete ∈ wsL_law := List.mem_of_getElem? (i := 225) (by decide +kernel)
set_option maxRecDepth 100000 in
theorem wm_226 : Cond.code yX7_delete cX7_delete 4 (some .int) ∈ wsL_law := List.mem_of_getElem? (i := 226) (by decide +kernel)
set_option maxRecDepth 100000 in
theorem wm_227 : Cond.methodLink RL 26 yX6_length ∈ wsL_law := List.mem_of_getElem? (i := 227) (by decide +kernel)
set_option maxRecDepth 100000 in
theorem wm_228 : Cond.instanceMethod yX6_length ∈ wsL_law := List.mem_of_getElem? (i := 228) (by decide +kernel)
set_option maxRecDepth 100000 in
theorem wm_229 : Cond.selects RX6 yX6_length yX6_length ∈ wsL_law := List.mem_of_getElem? (i := 229) (by decide +kernel)
set_option maxRecDepth 100000 in
theorem wm_230 : Cond.code yX6_length cX6_length 1 (some .int) ∈ wsL_law := List.mem_of_getElem? (i := 230) (by decide +kernel)
set_option maxRecDepth 100000 in
theorem wm_231 : Cond.methodLink RL 30 yX7_length ∈ wsL_law := List.mem_of_getElem? (i := 231) (by decide +kernel)
set_option maxRecDepth 100000 in
theorem wm_232 : Cond.instanceMethod yX7_length ∈ wsL_law := List.mem_of_getElem? (i := 232) (by decide +kernel)
set_option maxRecDepth 100000 in
theorem wm_233 : Cond.selects RX7 yX7_length yX7_length ∈ wsL_law := List.mem_of_getElem? (i := 233) (by decide +kernel)
set_option maxRecDepth 100000 in
theorem wm_234 : Cond.code yX7_length cX7_length 1 (some .int) ∈ wsL_law := List.mem_of_getElem? (i := 234) (by decide +kernel)
set_option maxRecDepth 100000 in
theorem wm_235 : Cond.methodLink RL 31 yX6_byteAt ∈ wsL_law := List.mem_of_getElem? (i := 235) (by decide +kernel)
set_option maxRecDepth 100000 in
theorem wm_236 : Cond.instanceMethod yX6_byteAt ∈ wsL_law := List.mem_of_getElem? (i := 236) (by decide +kernel)
set_option maxRecDepth 100000 in
theorem wm_237 : Cond.selects RX6 yX6_byteAt yX6_byteAt ∈ wsL_law := List.mem_of_getElem? (i := 237) (by decide +kernel)
set_option maxRecDepth 100000 in
theorem wm_238 : Cond.code yX6_byteAt cX6_byteAt 2 (some .int) ∈ wsL_law := List.mem_of_getElem? (i := 238) (by decide +kernel)
set_option maxRecDepth 100000 in
theorem wm_239 : Cond.methodLink RL 35 yX7_byteAt ∈ wsL_law := List.mem_of_getElem? (i := 239) (by decide +kernel)
set_option maxRecDepth 100000 in
theorem wm_240 : Cond.instanceMethod yX7_byteAt ∈ wsL_law := List.mem_of_getElem? (i := 240) (by decide +kernel)
set_option maxRecDepth 100000 in
theorem wm_241 : Cond.selects RX7 yX7_byteAt yX7_byteAt ∈ wsL_law := List.mem_of_getElem? (i := 241) (by decide +kernel)
set_option maxRecDepth 100000 in
theorem wm_242 : Cond.code yX7_byteAt cX7_byteAt 2 (some .int) ∈ wsL_law := List.mem_of_getElem? (i := 242) (by decide +kernel)
set_option maxRecDepth 100000 in
theorem wm_243 : Cond.methodLink RL 36 yX6_append ∈ wsL_law := List.mem_of_getElem? (i := 243) (by decide +kernel)
set_option maxRecDepth 100000 in
theorem wm_244 : Cond.instanceMethod yX6_append ∈ wsL_law := List.mem_of_getElem? (i := 244) (by decide +kernel)
set_option maxRecDepth 100000 in
theorem wm_245 : Cond.selects RX6 yX6_append yX6_append ∈ wsL_law := List.mem_of_getElem? (i := 245) (by decide +kernel)
set_option maxRecDepth 100000 in
theorem wm_246 : Cond.code yX6_append cX6_append 2 (some .int) ∈ wsL_law := List.mem_of_getElem? (i := 246) (by decide +kernel)
set_option maxRecDepth 100000 in
theorem wm_247 : Cond.methodLink RL 39 yX7_append ∈ wsL_law := List.mem_of_getElem? (i := 247) (by decide +kernel)
set_option maxRecDepth 100000 in
theorem wm_248 : Cond.instanceMethod yX7_append ∈ wsL_law := List.mem_of_getElem? (i := 248) (by decide +kernel)
set_option maxRecDepth 100000 in
theorem wm_249 : Cond.selects RX7 yX7_append yX7_append ∈ wsL_law := List.mem_of_getElem? (i := 249) (by decide +kernel)
set_option maxRecDepth 100000 in
theorem wm_250 : Cond.code yX7_append cX7_append 2 (some .int) ∈ wsL_law := List.mem_of_getElem? (i := 250) (by decide +kernel)
set_option maxRecDepth 100000 in
theorem wm_251 : Cond.fieldLink RX7 62 "IslandGrammarModel" "patternLength" "I" ∈ wsL_law := List.mem_of_getElem? (i := 251) (by decide +kernel)
set_option maxRecDepth 100000 in
theorem wm_252 : Cond.methodLink RL 40 yX6_clearPattern ∈ wsL_law := List.mem_of_getElem? (i := 252) (by decide +kernel)
set_option maxRecDepth 100000 in
theorem wm_253 : Cond.instanceMethod yX6_clearPattern ∈ wsL_law := List.mem_of_getElem? (i := 253) (by decide +kernel)
set_option maxRecDepth 100000 in
theorem wm_254 : Cond.selects RX6 yX6_clearPattern yX6_clearPattern ∈ wsL_law := List.mem_of_getElem? (i := 254) (by decide +kernel)
set_option maxRecDepth 100000 in
theorem wm_255 : Cond.code yX6_clearPattern cX6_clearPattern 2 (some .int) ∈ wsL_law := List.mem_of_getElem? (i := 255) (by decide +kernel)
set_option maxRecDepth 100000 in
theorem wm_256 : Cond.methodLink RL 43 yX7_clearPattern ∈ wsL_law := List.mem_of_getElem? (i := 256) (by decide +kernel)
set_option maxRecDepth 100000 in
theorem wm_257 : Cond.instanceMethod yX7_clearPattern ∈ wsL_law := List.mem_of_getElem? (i := 257) (by decide +kernel)
set_option maxRecDepth 100000 in
theorem wm_258 : Cond.selects RX7 yX7_clearPattern yX7_clearPattern ∈ wsL_law := List.mem_of_getElem? (i := 258) (by decide +kernel)
set_option maxRecDepth 100000 in
theorem wm_259 : Cond.code yX7_clearPattern cX7_clearPattern 2 (some .int) ∈ wsL_law := List.mem_of_getElem? (i := 259) (by decide +kernel)
set_option maxRecDepth 100000 in
theorem wm_260 : Cond.methodLink RL 44 yX6_define ∈ wsL_law := List.mem_of_getElem? (i := 260) (by decide +kernel)
set_option maxRecDepth 100000 in
theorem wm_261 : Cond.instanceMethod yX6_define ∈ wsL_law := List.mem_of_getElem? (i := 261) (by decide +kernel)
set_option maxRecDepth 100000 in
theorem wm_262 : Cond.selects RX6 yX6_define yX6_define ∈ wsL_law := List.mem_of_getElem? (i := 262) (by decide +kernel)
set_option maxRecDepth 100000 in
theorem wm_263 : Cond.code yX6_define cX6_define 2 (some .int) ∈ wsL_law := List.mem_of_getElem? (i := 263) (by decide +kernel)
set_option maxRecDepth 100000 in
theorem wm_264 : Cond.methodLink RX6 95 yX6_isRule ∈ wsL_law := List.mem_of_getElem? (i := 264) (by decide +kernel)
set_option maxRecDepth 100000 in
theorem wm_265 : Cond.static yX6_isRule ∈ wsL_law := List.mem_of_getElem? (i := 265) (by decide +kernel)
set_option maxRecDepth 100000 in
theorem wm_266 : Cond.code yX6_isRule cX6_isRule 1 (some .boolean) ∈ wsL_law := List.mem_of_getElem? (i := 266) (by decide +kernel)
set_option maxRecDepth 100000 in
theorem wm_267 : Cond.methodLink RX6 101 yX6_canStartPattern ∈ wsL_law := List.mem_of_getElem? (i := 267) (by decide +kernel)
set_option maxRecDepth 100000 in
theorem wm_268 : Cond.static yX6_canStartPattern ∈ wsL_law := List.mem_of_getElem? (i := 268) (by decide +kernel)
set_option maxRecDepth 100000 in
theorem wm_269 : Cond.code yX6_canStartPattern cX6_canStartPattern 1 (some .boolean) ∈ wsL_law := List.mem_of_getElem? (i := 269) (by decide +kernel)
set_option maxRecDepth 100000 in
theorem wm_270 : Cond.methodLink RX6 189 yX6_isReference ∈ wsL_law := List.mem_of_getElem? (i := 270) (by decide +kernel)
set_option maxRecDepth 100000 in
theorem wm_271 : Cond.static yX6_isReference ∈ wsL_law := List.mem_of_getElem? (i := 271) (by decide +kernel)
set_option maxRecDepth 100000 in
theorem wm_272 : Cond.code yX6_isReference cX6_isReference 1 (some .boolean) ∈ wsL_law := List.mem_of_getElem? (i := 272) (by decide +kernel)
set_option maxRecDepth 100000 in
theorem wm_273 : Cond.methodLink RX6 104 yX5_setPattern ∈ wsL_law := List.mem_of_getElem? (i := 273) (by decide +kernel)
set_option maxRecDepth 100000 in
theorem wm_274 : Cond.instanceMethod yX5_setPattern ∈ wsL_law := List.mem_of_getElem? (i := 274) (by decide +kernel)
set_option maxRecDepth 100000 in
theorem wm_275 : Cond.selects RX5 yX5_setPattern yX5_setPattern ∈ wsL_law := List.mem_of_getElem? (i := 275) (by decide +kernel)
set_option maxRecDepth 100000 in
theorem wm_276 : Cond.code yX5_setPattern cX5_setPattern 5 none ∈ wsL_law := List.mem_of_getElem? (i := 276) (by decide +kernel)
set_option maxRecDepth 100000 in
theorem wm_277 : Cond.methodLink RL 47 yX7_define ∈ wsL_law := List.mem_of_getElem? (i := 277) (by decide +kernel)
set_option maxRecDepth 100000 in
theorem wm_278 : Cond.instanceMethod yX7_define ∈ wsL_law := List.mem_of_getElem? (i := 278) (by decide +kernel)
set_option maxRecDepth 100000 in
theorem wm_279 : Cond.selects RX7 yX7_define yX7_define ∈ wsL_law := List.mem_of_getElem? (i := 279) (by decide +kernel)
set_option maxRecDepth 100000 in
theorem wm_280 : Cond.code yX7_define cX7_define 3 (some .int) ∈ wsL_law := List.mem_of_getElem? (i := 280) (by decide +kernel)
set_option maxRecDepth 100000 in
theorem wm_281 : Cond.methodLink RX7 65 yX7_isRule ∈ wsL_law := List.mem_of_getElem? (i := 281) (by decide +kernel)
set_option maxRecDepth 100000 in
theorem wm_282 : Cond.static yX7_isRule ∈ wsL_law := List.mem_of_getElem? (i := 282) (by decide +kernel)
set_option maxRecDepth 100000 in
theorem wm_283 : Cond.code yX7_isRule cX7_isRule 1 (some .boolean) ∈ wsL_law := List.mem_of_getElem? (i := 283) (by decide +kernel)
set_option maxRecDepth 100000 in
theorem wm_284 : Cond.methodLink RX7 68 yX7_isReference ∈ wsL_law := List.mem_of_getElem? (i := 284) (by decide +kernel)
set_option maxRecDepth 100000 in
theorem wm_285 : Cond.static yX7_isReference ∈ wsL_law := List.mem_of_getElem? (i := 285) (by decide +kernel)
set_option maxRecDepth 100000 in
theorem wm_286 : Cond.code yX7_isReference cX7_isReference 1 (some .boolean) ∈ wsL_law := List.mem_of_getElem? (i := 286) (by decide +kernel)
set_option maxRecDepth 100000 in
theorem wm_287 : Cond.methodLink RL 48 yX6_undefine ∈ wsL_law := List.mem_of_getElem? (i := 287) (by decide +kernel)
set_option maxRecDepth 100000 in
theorem wm_288 : Cond.instanceMethod yX6_undefine ∈ wsL_law := List.mem_of_getElem? (i := 288) (by decide +kernel)
set_option maxRecDepth 100000 in
theorem wm_289 : Cond.selects RX6 yX6_undefine yX6_undefine ∈ wsL_law := List.mem_of_getElem? (i := 289) (by decide +kernel)
set_option maxRecDepth 100000 in
theorem wm_290 : Cond.code yX6_undefine cX6_undefine 3 (some .int) ∈ wsL_law := List.mem_of_getElem? (i := 290) (by decide +kernel)
set_option maxRecDepth 100000 in
theorem wm_291 : Cond.methodLink RX6 108 yX5_patternSize ∈ wsL_law := List.mem_of_getElem? (i := 291) (by decide +kernel)
set_option maxRecDepth 100000 in
theorem wm_292 : Cond.instanceMethod yX5_patternSize ∈ wsL_law := List.mem_of_getElem? (i := 292) (by decide +kernel)
set_option maxRecDepth 100000 in
theorem wm_293 : Cond.selects RX5 yX5_patternSize yX5_patternSize ∈ wsL_law := List.mem_of_getElem? (i := 293) (by decide +kernel)
set_option maxRecDepth 100000 in
theorem wm_294 : Cond.code yX5_patternSize cX5_patternSize 2 (some .int) ∈ wsL_law := List.mem_of_getElem? (i := 294) (by decide +kernel)
set_option maxRecDepth 100000 in
theorem wm_295 : Cond.methodLink RL 51 yX7_undefine ∈ wsL_law := List.mem_of_getElem? (i := 295) (by decide +kernel)
set_option maxRecDepth 100000 in
theorem wm_296 : Cond.instanceMethod yX7_undefine ∈ wsL_law := List.mem_of_getElem? (i := 296) (by decide +kernel)
set_option maxRecDepth 100000 in
theorem wm_297 : Cond.selects RX7 yX7_undefine yX7_undefine ∈ wsL_law := List.mem_of_getElem? (i := 297) (by decide +kernel)
set_option maxRecDepth 100000 in
theorem wm_298 : Cond.code yX7_undefine cX7_undefine 3 (some .int) ∈ wsL_law := List.mem_of_getElem? (i := 298) (by decide +kernel)
set_option maxRecDepth 100000 in
theorem wm_299 : Cond.methodLink RL 52 yX6_setStop ∈ wsL_law := List.mem_of_getElem? (i := 299) (by decide +kernel)
set_option maxRecDepth 100000 in
theorem wm_300 : Cond.instanceMethod yX6_setStop ∈ wsL_law := List.mem_of_getElem? (i := 300) (by decide +kernel)
set_option maxRecDepth 100000 in
theorem wm_301 : Cond.selects RX6 yX6_setStop yX6_setStop ∈ wsL_law := List.mem_of_getElem? (i := 301) (by decide +kernel)
set_option maxRecDepth 100000 in
theorem wm_302 : Cond.code yX6_setStop cX6_setStop 4 (some .int) ∈ wsL_law := List.mem_of_getElem? (i := 302) (by decide +kernel)
set_option maxRecDepth 100000 in
theorem wm_303 : Cond.methodLink RX6 111 yX5_stopOf ∈ wsL_law := List.mem_of_getElem? (i := 303) (by decide +kernel)
set_option maxRecDepth 100000 in
theorem wm_304 : Cond.instanceMethod yX5_stopOf ∈ wsL_law := List.mem_of_getElem? (i := 304) (by decide +kernel)
set_option maxRecDepth 100000 in
theorem wm_305 : Cond.selects RX5 yX5_stopOf yX5_stopOf ∈ wsL_law := List.mem_of_getElem? (i := 305) (by decide +kernel)
set_option maxRecDepth 100000 in
theorem wm_306 : Cond.code yX5_stopOf cX5_stopOf 2 (some .int) ∈ wsL_law := List.mem_of_getElem? (i := 306) (by decide +kernel)
set_option maxRecDepth 100000 in
theorem wm_307 : Cond.methodLink RX6 114 yX5_putStop ∈ wsL_law := List.mem_of_getElem? (i := 307) (by decide +kernel)
set_option maxRecDepth 100000 in
theorem wm_308 : Cond.instanceMethod yX5_putStop ∈ wsL_law := List.mem_of_getElem? (i := 308) (by decide +kernel)
set_option maxRecDepth 100000 in
theorem wm_309 : Cond.selects RX5 yX5_putStop yX5_putStop ∈ wsL_law := List.mem_of_getElem? (i := 309) (by decide +kernel)
set_option maxRecDepth 100000 in
theorem wm_310 : Cond.code yX5_putStop cX5_putStop 3 none ∈ wsL_law := List.mem_of_getElem? (i := 310) (by decide +kernel)
set_option maxRecDepth 100000 in
theorem wm_311 : Cond.methodLink RL 55 yX7_setStop ∈ wsL_law := List.mem_of_getElem? (i := 311) (by decide +kernel)
set_option maxRecDepth 100000 in
theorem wm_312 : Cond.instanceMethod yX7_setStop ∈ wsL_law := List.mem_of_getElem? (i := 312) (by decide +kernel)
set_option maxRecDepth 100000 in
theorem wm_313 : Cond.selects RX7 yX7_setStop yX7_setStop ∈ wsL_law := List.mem_of_getElem? (i := 313) (by decide +kernel)
set_option maxRecDepth 100000 in
theorem wm_314 : Cond.code yX7_setStop cX7_setStop 4 (some .int) ∈ wsL_law := List.mem_of_getElem? (i := 314) (by decide +kernel)
set_option maxRecDepth 100000 in
theorem wm_315 : Cond.methodLink RL 56 yX6_element ∈ wsL_law := List.mem_of_getElem? (i := 315) (by decide +kernel)
set_option maxRecDepth 100000 in
theorem wm_316 : Cond.instanceMethod yX6_element ∈ wsL_law := List.mem_of_getElem? (i := 316) (by decide +kernel)
set_option maxRecDepth 100000 in
theorem wm_317 : Cond.selects RX6 yX6_element yX6_element ∈ wsL_law := List.mem_of_getElem? (i := 317) (by decide +kernel)
set_option maxRecDepth 100000 in
theorem wm_318 : Cond.code yX6_element cX6_element 3 (some .int) ∈ wsL_law := List.mem_of_getElem? (i := 318) (by decide +kernel)
set_option maxRecDepth 100000 in
theorem wm_319 : Cond.methodLink RX6 117 yX5_patternAt ∈ wsL_law := List.mem_of_getElem? (i := 319) (by decide +kernel)
set_option maxRecDepth 100000 in
theorem wm_320 : Cond.instanceMethod yX5_patternAt ∈ wsL_law := List.mem_of_getElem? (i := 320) (by decide +kernel)
set_option maxRecDepth 100000 in
theorem wm_321 : Cond.selects RX5 yX5_patternAt yX5_patternAt ∈ wsL_law := List.mem_of_getElem? (i := 321) (by decide +kernel)
set_option maxRecDepth 100000 in
theorem wm_322 : Cond.code yX5_patternAt cX5_patternAt 3 (some .int) ∈ wsL_law := List.mem_of_getElem? (i := 322) (by decide +kernel)
set_option maxRecDepth 100000 in
theorem wm_323 : Cond.methodLink RL 59 yX7_element ∈ wsL_law := List.mem_of_getElem? (i := 323) (by decide +kernel)
set_option maxRecDepth 100000 in
theorem wm_324 : Cond.instanceMethod yX7_element ∈ wsL_law := List.mem_of_getElem? (i := 324) (by decide +kernel)
set_option maxRecDepth 100000 in
theorem wm_325 : Cond.selects RX7 yX7_element yX7_element ∈ wsL_law := List.mem_of_getElem? (i := 325) (by decide +kernel)
set_option maxRecDepth 100000 in
theorem wm_326 : Cond.code yX7_element cX7_element 3 (some .int) ∈ wsL_law := List.mem_of_getElem? (i := 326) (by decide +kernel)
set_option maxRecDepth 100000 in
theorem wm_327 : Cond.methodLink RX7 71 yX7_elementOf ∈ wsL_law := List.mem_of_getElem? (i := 327) (by decide +kernel)
set_option maxRecDepth 100000 in
theorem wm_328 : Cond.instanceMethod yX7_elementOf ∈ wsL_law := List.mem_of_getElem? (i := 328) (by decide +kernel)
set_option maxRecDepth 100000 in
theorem wm_329 : Cond.selects RX7 yX7_elementOf yX7_elementOf ∈ wsL_law := List.mem_of_getElem? (i := 329) (by decide +kernel)
set_option maxRecDepth 100000 in
theorem wm_330 : Cond.code yX7_elementOf cX7_elementOf 3 (some .int) ∈ wsL_law := List.mem_of_getElem? (i := 330) (by decide +kernel)
set_option maxRecDepth 100000 in
theorem wm_331 : Cond.methodLink RL 60 yX6_matchEnd ∈ wsL_law := List.mem_of_getElem? (i := 331) (by decide +kernel)
set_option maxRecDepth 100000 in
theorem wm_332 : Cond.instanceMethod yX6_matchEnd ∈ wsL_law := List.mem_of_getElem? (i := 332) (by decide +kernel)
set_option maxRecDepth 100000 in
theorem wm_333 : Cond.selects RX6 yX6_matchEnd yX6_matchEnd ∈ wsL_law := List.mem_of_getElem? (i := 333) (by decide +kernel)
set_option maxRecDepth 100000 in
theorem wm_334 : Cond.code yX6_matchEnd cX6_matchEnd 3 (some .int) ∈ wsL_law := List.mem_of_getElem? (i := 334) (by decide +kernel)
set_option maxRecDepth 100000 in
theorem wm_335 : Cond.methodLink RX6 121 yX6_refresh ∈ wsL_law := List.mem_of_getElem? (i := 335) (by decide +kernel)
set_option maxRecDepth 100000 in
theorem wm_336 : Cond.instanceMethod yX6_refresh ∈ wsL_law := List.mem_of_getElem? (i := 336) (by decide +kernel)
set_option maxRecDepth 100000 in
theorem wm_337 : Cond.selects RX6 yX6_refresh yX6_refresh ∈ wsL_law := List.mem_of_getElem? (i := 337) (by decide +kernel)
set_option maxRecDepth 100000 in
theorem wm_338 : Cond.code yX6_refresh cX6_refresh 1 none ∈ wsL_law := List.mem_of_getElem? (i := 338) (by decide +kernel)
set_option maxRecDepth 100000 in
theorem wm_339 : Cond.methodLink RX6 197 yX2_update ∈ wsL_law := List.mem_of_getElem? (i := 339) (by decide +kernel)
set_option maxRecDepth 100000 in
theorem wm_340 : Cond.instanceMethod yX2_update ∈ wsL_law := List.mem_of_getElem? (i := 340) (by decide +kernel)
set_option maxRecDepth 100000 in
theorem wm_341 : Cond.selects RX2 yX2_update yX2_update ∈ wsL_law := List.mem_of_getElem? (i := 341) (by decide +kernel)
set_option maxRecDepth 100000 in
theorem wm_342 : Cond.code yX2_update cX2_update 3 none ∈ wsL_law := List.mem_of_getElem? (i := 342) (by decide +kernel)
set_option maxRecDepth 100000 in
theorem wm_343 : Cond.methodLink RX2 37 yX5_textSize ∈ wsL_law := List.mem_of_getElem? (i := 343) (by decide +kernel)
set_option maxRecDepth 100000 in
theorem wm_344 : Cond.methodLink RX2 43 yX2_markRuns ∈ wsL_law := List.mem_of_getElem? (i := 344) (by decide +kernel)
set_option maxRecDepth 100000 in
theorem wm_345 : Cond.instanceMethod yX2_markRuns ∈ wsL_law := List.mem_of_getElem? (i := 345) (by decide +kernel)
set_option maxRecDepth 100000 in
theorem wm_346 : Cond.selects RX2 yX2_markRuns yX2_markRuns ∈ wsL_law := List.mem_of_getElem? (i := 346) (by decide +kernel)
set_option maxRecDepth 100000 in
theorem wm_347 : Cond.code yX2_markRuns cX2_markRuns 3 none ∈ wsL_law := List.mem_of_getElem? (i := 347) (by decide +kernel)
set_option maxRecDepth 100000 in
theorem wm_348 : Cond.methodLink RX2 64 yX5_textAt ∈ wsL_law := List.mem_of_getElem? (i := 348) (by decide +kernel)
set_option maxRecDepth 100000 in
theorem wm_349 : Cond.static yX6_isDigit ∈ wsL_law := List.mem_of_getElem? (i := 349) (by decide +kernel)
set_option maxRecDepth 100000 in
theorem wm_350 : Cond.code yX6_isDigit cX6_isDigit 1 (some .boolean) ∈ wsL_law := List.mem_of_getElem? (i := 350) (by decide +kernel)
set_option maxRecDepth 100000 in
theorem wm_351 : Cond.methodLink RX2 70 yX2_runEnd ∈ wsL_law := List.mem_of_getElem? (i := 351) (by decide +kernel)
set_option maxRecDepth 100000 in
theorem wm_352 : Cond.static yX2_runEnd ∈ wsL_law := List.mem_of_getElem? (i := 352) (by decide +kernel)
set_option maxRecDepth 100000 in
theorem wm_353 : Cond.code yX2_runEnd cX2_runEnd 3 (some .int) ∈ wsL_law := List.mem_of_getElem? (i := 353) (by decide +kernel)
set_option maxRecDepth 100000 in
theorem wm_354 : Cond.methodLink RX2 57 yX4_get ∈ wsL_law := List.mem_of_getElem? (i := 354) (by decide +kernel)
set_option maxRecDepth 100000 in
theorem wm_355 : Cond.methodLink RX2 74 yX4_set ∈ wsL_law := List.mem_of_getElem? (i := 355) (by decide +kernel)
set_option maxRecDepth 100000 in
theorem wm_356 : Cond.static yX6_isLetter ∈ wsL_law := List.mem_of_getElem? (i := 356) (by decide +kernel)
set_option maxRecDepth 100000 in
theorem wm_357 : Cond.code yX6_isLetter cX6_isLetter 1 (some .boolean) ∈ wsL_law := List.mem_of_getElem? (i := 357) (by decide +kernel)
set_option maxRecDepth 100000 in
theorem wm_358 : Cond.methodLink RX2 46 yX2_matchIslands ∈ wsL_law := List.mem_of_getElem? (i := 358) (by decide +kernel)
set_option maxRecDepth 100000 in
theorem wm_359 : Cond.instanceMethod yX2_matchIslands ∈ wsL_law := List.mem_of_getElem? (i := 359) (by decide +kernel)
set_option maxRecDepth 100000 in
theorem wm_360 : Cond.selects RX2 yX2_matchIslands yX2_matchIslands ∈ wsL_law := List.mem_of_getElem? (i := 360) (by decide +kernel)
set_option maxRecDepth 100000 in
theorem wm_361 : Cond.code yX2_matchIslands cX2_matchIslands 5 none ∈ wsL_law := List.mem_of_getElem? (i := 361) (by decide +kernel)
set_option maxRecDepth 100000 in
theorem wm_362 : Cond.methodLink RX2 80 yX5_patternSize ∈ wsL_law := List.mem_of_getElem? (i := 362) (by decide +kernel)
set_option maxRecDepth 100000 in
theorem wm_363 : Cond.methodLink RX2 83 yX5_patternAt ∈ wsL_law := List.mem_of_getElem? (i := 363) (by decide +kernel)
set_option maxRecDepth 100000 in
theorem wm_364 : Cond.methodLink RX2 87 yX2_elementEnd ∈ wsL_law := List.mem_of_getElem? (i := 364) (by decide +kernel)
set_option maxRecDepth 100000 in
theorem wm_365 : Cond.instanceMethod yX2_elementEnd ∈ wsL_law := List.mem_of_getElem? (i := 365) (by decide +kernel)
set_option maxRecDepth 100000 in
theorem wm_366 : Cond.selects RX2 yX2_elementEnd yX2_elementEnd ∈ wsL_law := List.mem_of_getElem? (i := 366) (by decide +kernel)
set_option maxRecDepth 100000 in
theorem wm_367 : Cond.code yX2_elementEnd cX2_elementEnd 3 (some .int) ∈ wsL_law := List.mem_of_getElem? (i := 367) (by decide +kernel)
set_option maxRecDepth 100000 in
theorem wm_368 : Cond.methodLink RX2 53 yX0_get ∈ wsL_law := List.mem_of_getElem? (i := 368) (by decide +kernel)
set_option maxRecDepth 100000 in
theorem wm_369 : Cond.instanceMethod yX0_get ∈ wsL_law := List.mem_of_getElem? (i := 369) (by decide +kernel)
set_option maxRecDepth 100000 in
theorem wm_370 : Cond.selects RX0 yX0_get yX0_get ∈ wsL_law := List.mem_of_getElem? (i := 370) (by decide +kernel)
set_option maxRecDepth 100000 in
theorem wm_371 : Cond.code yX0_get cX0_get 5 (some .int) ∈ wsL_law := List.mem_of_getElem? (i := 371) (by decide +kernel)
set_option maxRecDepth 100000 in
theorem wm_372 : Cond.methodLink RX2 90 yX0_set ∈ wsL_law := List.mem_of_getElem? (i := 372) (by decide +kernel)
set_option maxRecDepth 100000 in
theorem wm_373 : Cond.instanceMethod yX0_set ∈ wsL_law := List.mem_of_getElem? (i := 373) (by decide +kernel)
set_option maxRecDepth 100000 in
theorem wm_374 : Cond.selects RX0 yX0_set yX0_set ∈ wsL_law := List.mem_of_getElem? (i := 374) (by decide +kernel)
set_option maxRecDepth 100000 in
theorem wm_375 : Cond.code yX0_set cX0_set 6 none ∈ wsL_law := List.mem_of_getElem? (i := 375) (by decide +kernel)
set_option maxRecDepth 100000 in
theorem wm_376 : Cond.methodLink RX2 49 yX2_matchRests ∈ wsL_law := List.mem_of_getElem? (i := 376) (by decide +kernel)
set_option maxRecDepth 100000 in
theorem wm_377 : Cond.instanceMethod yX2_matchRests ∈ wsL_law := List.mem_of_getElem? (i := 377) (by decide +kernel)
set_option maxRecDepth 100000 in
theorem wm_378 : Cond.selects RX2 yX2_matchRests yX2_matchRests ∈ wsL_law := List.mem_of_getElem? (i := 378) (by decide +kernel)
set_option maxRecDepth 100000 in
theorem wm_379 : Cond.code yX2_matchRests cX2_matchRests 7 none ∈ wsL_law := List.mem_of_getElem? (i := 379) (by decide +kernel)
set_option maxRecDepth 100000 in
theorem wm_380 : Cond.methodLink RX2 93 yX2_waterRestEnd ∈ wsL_law := List.mem_of_getElem? (i := 380) (by decide +kernel)
set_option maxRecDepth 100000 in
theorem wm_381 : Cond.instanceMethod yX2_waterRestEnd ∈ wsL_law := List.mem_of_getElem? (i := 381) (by decide +kernel)
set_option maxRecDepth 100000 in
theorem wm_382 : Cond.selects RX2 yX2_waterRestEnd yX2_waterRestEnd ∈ wsL_law := List.mem_of_getElem? (i := 382) (by decide +kernel)
set_option maxRecDepth 100000 in
theorem wm_383 : Cond.code yX2_waterRestEnd cX2_waterRestEnd 7 (some .int) ∈ wsL_law := List.mem_of_getElem? (i := 383) (by decide +kernel)
set_option maxRecDepth 100000 in
theorem wm_384 : Cond.methodLink RX2 96 yX5_stopOf ∈ wsL_law := List.mem_of_getElem? (i := 384) (by decide +kernel)
set_option maxRecDepth 100000 in
theorem wm_385 : Cond.methodLink RX6 200 yX3_update ∈ wsL_law := List.mem_of_getElem? (i := 385) (by decide +kernel)
set_option maxRecDepth 100000 in
theorem wm_386 : Cond.instanceMethod yX3_update ∈ wsL_law := List.mem_of_getElem? (i := 386) (by decide +kernel)
set_option maxRecDepth 100000 in
theorem wm_387 : Cond.selects RX3 yX3_update yX3_update ∈ wsL_law := List.mem_of_getElem? (i := 387) (by decide +kernel)
set_option maxRecDepth 100000 in
theorem wm_388 : Cond.code yX3_update cX3_update 4 none ∈ wsL_law := List.mem_of_getElem? (i := 388) (by decide +kernel)
set_option maxRecDepth 100000 in
theorem wm_389 : Cond.methodLink RX3 68 yX3_clear ∈ wsL_law := List.mem_of_getElem? (i := 389) (by decide +kernel)
set_option maxRecDepth 100000 in
theorem wm_390 : Cond.instanceMethod yX3_clear ∈ wsL_law := List.mem_of_getElem? (i := 390) (by decide +kernel)
set_option maxRecDepth 100000 in
theorem wm_391 : Cond.selects RX3 yX3_clear yX3_clear ∈ wsL_law := List.mem_of_getElem? (i := 391) (by decide +kernel)
set_option maxRecDepth 100000 in
theorem wm_392 : Cond.code yX3_clear cX3_clear 1 none ∈ wsL_law := List.mem_of_getElem? (i := 392) (by decide +kernel)
set_option maxRecDepth 100000 in
theorem wm_393 : Cond.methodLink RX3 94 yX4_fill ∈ wsL_law := List.mem_of_getElem? (i := 393) (by decide +kernel)
set_option maxRecDepth 100000 in
theorem wm_394 : Cond.methodLink RX3 71 yX5_textSize ∈ wsL_law := List.mem_of_getElem? (i := 394) (by decide +kernel)
set_option maxRecDepth 100000 in
theorem wm_395 : Cond.methodLink RX3 77 yX3_takeTopLevel ∈ wsL_law := List.mem_of_getElem? (i := 395) (by decide +kernel)
set_option maxRecDepth 100000 in
theorem wm_396 : Cond.instanceMethod yX3_takeTopLevel ∈ wsL_law := List.mem_of_getElem? (i := 396) (by decide +kernel)
set_option maxRecDepth 100000 in
theorem wm_397 : Cond.selects RX3 yX3_takeTopLevel yX3_takeTopLevel ∈ wsL_law := List.mem_of_getElem? (i := 397) (by decide +kernel)
set_option maxRecDepth 100000 in
theorem wm_398 : Cond.code yX3_takeTopLevel cX3_takeTopLevel 3 (some .int) ∈ wsL_law := List.mem_of_getElem? (i := 398) (by decide +kernel)
set_option maxRecDepth 100000 in
theorem wm_399 : Cond.methodLink RX3 102 Lib.Math.max.name ∈ wsL_law := List.mem_of_getElem? (i := 399) (by decide +kernel)
set_option maxRecDepth 100000 in
theorem wm_400 : Cond.static Lib.Math.max.name ∈ wsL_law := List.mem_of_getElem? (i := 400) (by decide +kernel)
set_option maxRecDepth 100000 in
theorem wm_401 : Cond.code Lib.Math.max.name Lib.Math.max.code 2 (some .int) ∈ wsL_law := List.mem_of_getElem? (i := 401) (by decide +kernel)
set_option maxRecDepth 100000 in
theorem wm_402 : Cond.methodLink RX3 97 yX2_firstRule ∈ wsL_law := List.mem_of_getElem? (i := 402) (by decide +kernel)
set_option maxRecDepth 100000 in
theorem wm_403 : Cond.instanceMethod yX2_firstRule ∈ wsL_law := List.mem_of_getElem? (i := 403) (by decide +kernel)
set_option maxRecDepth 100000 in
theorem wm_404 : Cond.selects RX2 yX2_firstRule yX2_firstRule ∈ wsL_law := List.mem_of_getElem? (i := 404) (by decide +kernel)
set_option maxRecDepth 100000 in
theorem wm_405 : Cond.code yX2_firstRule cX2_firstRule 2 (some .int) ∈ wsL_law := List.mem_of_getElem? (i := 405) (by decide +kernel)
set_option maxRecDepth 100000 in
theorem wm_406 : Cond.methodLink RX3 108 yX3_announce ∈ wsL_law := List.mem_of_getElem? (i := 406) (by decide +kernel)
set_option maxRecDepth 100000 in
theorem wm_407 : Cond.instanceMethod yX3_announce ∈ wsL_law := List.mem_of_getElem? (i := 407) (by decide +kernel)
set_option maxRecDepth 100000 in
theorem wm_408 : Cond.selects RX3 yX3_announce yX3_announce ∈ wsL_law := List.mem_of_getElem? (i := 408) (by decide +kernel)
set_option maxRecDepth 100000 in
theorem wm_409 : Cond.code yX3_announce cX3_announce 4 none ∈ wsL_law := List.mem_of_getElem? (i := 409) (by decide +kernel)
set_option maxRecDepth 100000 in
theorem wm_410 : Cond.methodLink RX3 115 yX4_set ∈ wsL_law := List.mem_of_getElem? (i := 410) (by decide +kernel)
set_option maxRecDepth 100000 in
theorem wm_411 : Cond.methodLink RX3 112 yX2_islandEnd ∈ wsL_law := List.mem_of_getElem? (i := 411) (by decide +kernel)
set_option maxRecDepth 100000 in
theorem wm_412 : Cond.instanceMethod yX2_islandEnd ∈ wsL_law := List.mem_of_getElem? (i := 412) (by decide +kernel)
set_option maxRecDepth 100000 in
theorem wm_413 : Cond.selects RX2 yX2_islandEnd yX2_islandEnd ∈ wsL_law := List.mem_of_getElem? (i := 413) (by decide +kernel)
set_option maxRecDepth 100000 in
theorem wm_414 : Cond.code yX2_islandEnd cX2_islandEnd 3 (some .int) ∈ wsL_law := List.mem_of_getElem? (i := 414) (by decide +kernel)
set_option maxRecDepth 100000 in
theorem wm_415 : Cond.methodLink RX3 81 yX4_get ∈ wsL_law := List.mem_of_getElem? (i := 415) (by decide +kernel)
set_option maxRecDepth 100000 in
theorem wm_416 : Cond.methodLink RX3 84 yX3_addNode ∈ wsL_law := List.mem_of_getElem? (i := 416) (by decide +kernel)
set_option maxRecDepth 100000 in
theorem wm_417 : Cond.instanceMethod yX3_addNode ∈ wsL_law := List.mem_of_getElem? (i := 417) (by decide +kernel)
set_option maxRecDepth 100000 in
theorem wm_418 : Cond.selects RX3 yX3_addNode yX3_addNode ∈ wsL_law := List.mem_of_getElem? (i := 418) (by decide +kernel)
set_option maxRecDepth 100000 in
theorem wm_419 : Cond.code yX3_addNode cX3_addNode 4 none ∈ wsL_law := List.mem_of_getElem? (i := 419) (by decide +kernel)
set_option maxRecDepth 100000 in
theorem wm_420 : Cond.methodLink RX3 87 yX3_walkPattern ∈ wsL_law := List.mem_of_getElem? (i := 420) (by decide +kernel)
set_option maxRecDepth 100000 in
theorem wm_421 : Cond.instanceMethod yX3_walkPattern ∈ wsL_law := List.mem_of_getElem? (i := 421) (by decide +kernel)
set_option maxRecDepth 100000 in
theorem wm_422 : Cond.selects RX3 yX3_walkPattern yX3_walkPattern ∈ wsL_law := List.mem_of_getElem? (i := 422) (by decide +kernel)
set_option maxRecDepth 100000 in
theorem wm_423 : Cond.code yX3_walkPattern cX3_walkPattern 8 none ∈ wsL_law := List.mem_of_getElem? (i := 423) (by decide +kernel)
set_option maxRecDepth 100000 in
theorem wm_424 : Cond.methodLink RX3 119 yX5_patternSize ∈ wsL_law := List.mem_of_getElem? (i := 424) (by decide +kernel)
set_option maxRecDepth 100000 in
theorem wm_425 : Cond.methodLink RX3 122 yX5_patternAt ∈ wsL_law := List.mem_of_getElem? (i := 425) (by decide +kernel)
set_option maxRecDepth 100000 in
theorem wm_426 : Cond.methodLink RX3 125 yX3_walkWater ∈ wsL_law := List.mem_of_getElem? (i := 426) (by decide +kernel)
set_option maxRecDepth 100000 in
theorem wm_427 : Cond.instanceMethod yX3_walkWater ∈ wsL_law := List.mem_of_getElem? (i := 427) (by decide +kernel)
set_option maxRecDepth 100000 in
theorem wm_428 : Cond.selects RX3 yX3_walkWater yX3_walkWater ∈ wsL_law := List.mem_of_getElem? (i := 428) (by decide +kernel)
set_option maxRecDepth 100000 in
theorem wm_429 : Cond.code yX3_walkWater cX3_walkWater 8 (some .int) ∈ wsL_law := List.mem_of_getElem? (i := 429) (by decide +kernel)
set_option maxRecDepth 100000 in
theorem wm_430 : Cond.methodLink RX3 139 yX2_restMatches ∈ wsL_law := List.mem_of_getElem? (i := 430) (by decide +kernel)
set_option maxRecDepth 100000 in
theorem wm_431 : Cond.instanceMethod yX2_restMatches ∈ wsL_law := List.mem_of_getElem? (i := 431) (by decide +kernel)
set_option maxRecDepth 100000 in
theorem wm_432 : Cond.selects RX2 yX2_restMatches yX2_restMatches ∈ wsL_law := List.mem_of_getElem? (i := 432) (by decide +kernel)
set_option maxRecDepth 100000 in
theorem wm_433 : Cond.code yX2_restMatches cX2_restMatches 4 (some .boolean) ∈ wsL_law := List.mem_of_getElem? (i := 433) (by decide +kernel)
set_option maxRecDepth 100000 in
theorem wm_434 : Cond.methodLink RX3 129 yX2_elementEnd ∈ wsL_law := List.mem_of_getElem? (i := 434) (by decide +kernel)
set_option maxRecDepth 100000 in
theorem wm_435 : Cond.methodLink RX3 136 yX5_numberBetween ∈ wsL_law := List.mem_of_getElem? (i := 435) (by decide +kernel)
set_option maxRecDepth 100000 in
theorem wm_436 : Cond.instanceMethod yX5_numberBetween ∈ wsL_law := List.mem_of_getElem? (i := 436) (by decide +kernel)
set_option maxRecDepth 100000 in
theorem wm_437 : Cond.selects RX5 yX5_numberBetween yX5_numberBetween ∈ wsL_law := List.mem_of_getElem? (i := 437) (by decide +kernel)
set_option maxRecDepth 100000 in
theorem wm_438 : Cond.code yX5_numberBetween cX5_numberBetween 5 (some .int) ∈ wsL_law := List.mem_of_getElem? (i := 438) (by decide +kernel)
set_option maxRecDepth 100000 in
theorem wm_439 : Cond.constant RX5 47 (1000000) ∈ wsL_law := List.mem_of_getElem? (i := 439) (by decide +kernel)
set_option maxRecDepth 100000 in
theorem wm_440 : Cond.methodLink RX5 44 yX5_textAt ∈ wsL_law := List.mem_of_getElem? (i := 440) (by decide +kernel)
set_option maxRecDepth 100000 in
theorem wm_441 : Cond.methodLink RX6 124 yX2_islandEnd ∈ wsL_law := List.mem_of_getElem? (i := 441) (by decide +kernel)
set_option maxRecDepth 100000 in
theorem wm_442 : Cond.methodLink RL 63 yX7_matchEnd ∈ wsL_law := List.mem_of_getElem? (i := 442) (by decide +kernel)
set_option maxRecDepth 100000 in
theorem wm_443 : Cond.instanceMethod yX7_matchEnd ∈ wsL_law := List.mem_of_getElem? (i := 443) (by decide +kernel)
set_option maxRecDepth 100000 in
theorem wm_444 : Cond.selects RX7 yX7_matchEnd yX7_matchEnd ∈ wsL_law := List.mem_of_getElem? (i := 444) (by decide +kernel)
set_option maxRecDepth 100000 in
theorem wm_445 : Cond.code yX7_matchEnd cX7_matchEnd 3 (some .int) ∈ wsL_law := List.mem_of_getElem? (i := 445) (by decide +kernel)
set_option maxRecDepth 100000 in
theorem wm_446 : Cond.methodLink RX7 97 yX7_findEnds ∈ wsL_law := List.mem_of_getElem? (i := 446) (by decide +kernel)
set_option maxRecDepth 100000 in
theorem wm_447 : Cond.instanceMethod yX7_findEnds ∈ wsL_law := List.mem_of_getElem? (i := 447) (by decide +kernel)
set_option maxRecDepth 100000 in
theorem wm_448 : Cond.selects RX7 yX7_findEnds yX7_findEnds ∈ wsL_law := List.mem_of_getElem? (i := 448) (by decide +kernel)
set_option maxRecDepth 100000 in
theorem wm_449 : Cond.code yX7_findEnds cX7_findEnds 4 none ∈ wsL_law := List.mem_of_getElem? (i := 449) (by decide +kernel)
set_option maxRecDepth 100000 in
theorem wm_450 : Cond.methodLink RX7 78 yX7_cell ∈ wsL_law := List.mem_of_getElem? (i := 450) (by decide +kernel)
set_option maxRecDepth 100000 in
theorem wm_451 : Cond.static yX7_cell ∈ wsL_law := List.mem_of_getElem? (i := 451) (by decide +kernel)
set_option maxRecDepth 100000 in
theorem wm_452 : Cond.code yX7_cell cX7_cell 3 (some .int) ∈ wsL_law := List.mem_of_getElem? (i := 452) (by decide +kernel)
set_option maxRecDepth 100000 in
theorem wm_453 : Cond.methodLink RX7 94 yX7_suffixEnd ∈ wsL_law := List.mem_of_getElem? (i := 453) (by decide +kernel)
set_option maxRecDepth 100000 in
theorem wm_454 : Cond.instanceMethod yX7_suffixEnd ∈ wsL_law := List.mem_of_getElem? (i := 454) (by decide +kernel)
set_option maxRecDepth 100000 in
theorem wm_455 : Cond.selects RX7 yX7_suffixEnd yX7_suffixEnd ∈ wsL_law := List.mem_of_getElem? (i := 455) (by decide +kernel)
set_option maxRecDepth 100000 in
theorem wm_456 : Cond.code yX7_suffixEnd cX7_suffixEnd 6 (some .int) ∈ wsL_law := List.mem_of_getElem? (i := 456) (by decide +kernel)
set_option maxRecDepth 100000 in
theorem wm_457 : Cond.methodLink RX7 88 yX7_waterEnd ∈ wsL_law := List.mem_of_getElem? (i := 457) (by decide +kernel)
set_option maxRecDepth 100000 in
theorem wm_458 : Cond.instanceMethod yX7_waterEnd ∈ wsL_law := List.mem_of_getElem? (i := 458) (by decide +kernel)
set_option maxRecDepth 100000 in
theorem wm_459 : Cond.selects RX7 yX7_waterEnd yX7_waterEnd ∈ wsL_law := List.mem_of_getElem? (i := 459) (by decide +kernel)
set_option maxRecDepth 100000 in
theorem wm_460 : Cond.code yX7_waterEnd cX7_waterEnd 7 (some .int) ∈ wsL_law := List.mem_of_getElem? (i := 460) (by decide +kernel)
set_option maxRecDepth 100000 in
theorem wm_461 : Cond.methodLink RX7 85 yX7_islandAt ∈ wsL_law := List.mem_of_getElem? (i := 461) (by decide +kernel)
set_option maxRecDepth 100000 in
theorem wm_462 : Cond.instanceMethod yX7_islandAt ∈ wsL_law := List.mem_of_getElem? (i := 462) (by decide +kernel)
set_option maxRecDepth 100000 in
theorem wm_463 : Cond.selects RX7 yX7_islandAt yX7_islandAt ∈ wsL_law := List.mem_of_getElem? (i := 463) (by decide +kernel)
set_option maxRecDepth 100000 in
theorem wm_464 : Cond.code yX7_islandAt cX7_islandAt 3 (some .int) ∈ wsL_law := List.mem_of_getElem? (i := 464) (by decide +kernel)
set_option maxRecDepth 100000 in
theorem wm_465 : Cond.methodLink RX7 91 yX7_elementEnd ∈ wsL_law := List.mem_of_getElem? (i := 465) (by decide +kernel)
set_option maxRecDepth 100000 in
theorem wm_466 : Cond.instanceMethod yX7_elementEnd ∈ wsL_law := List.mem_of_getElem? (i := 466) (by decide +kernel)
set_option maxRecDepth 100000 in
theorem wm_467 : Cond.selects RX7 yX7_elementEnd yX7_elementEnd ∈ wsL_law := List.mem_of_getElem? (i := 467) (by decide +kernel)
set_option maxRecDepth 100000 in
theorem wm_468 : Cond.code yX7_elementEnd cX7_elementEnd 4 (some .int) ∈ wsL_law := List.mem_of_getElem? (i := 468) (by decide +kernel)
set_option maxRecDepth 100000 in
theorem wm_469 : Cond.methodLink RX7 82 yX7_runEnd ∈ wsL_law := List.mem_of_getElem? (i := 469) (by decide +kernel)
set_option maxRecDepth 100000 in
theorem wm_470 : Cond.instanceMethod yX7_runEnd ∈ wsL_law := List.mem_of_getElem? (i := 470) (by decide +kernel)
set_option maxRecDepth 100000 in
theorem wm_471 : Cond.selects RX7 yX7_runEnd yX7_runEnd ∈ wsL_law := List.mem_of_getElem? (i := 471) (by decide +kernel)
set_option maxRecDepth 100000 in
theorem wm_472 : Cond.code yX7_runEnd cX7_runEnd 5 (some .int) ∈ wsL_law := List.mem_of_getElem? (i := 472) (by decide +kernel)
set_option maxRecDepth 100000 in
theorem wm_473 : Cond.methodLink RX7 75 yX7_isOf ∈ wsL_law := List.mem_of_getElem? (i := 473) (by decide +kernel)
set_option maxRecDepth 100000 in
theorem wm_474 : Cond.instanceMethod yX7_isOf ∈ wsL_law := List.mem_of_getElem? (i := 474) (by decide +kernel)
set_option maxRecDepth 100000 in
theorem wm_475 : Cond.selects RX7 yX7_isOf yX7_isOf ∈ wsL_law := List.mem_of_getElem? (i := 475) (by decide +kernel)
set_option maxRecDepth 100000 in
theorem wm_476 : Cond.code yX7_isOf cX7_isOf 4 (some .boolean) ∈ wsL_law := List.mem_of_getElem? (i := 476) (by decide +kernel)
set_option maxRecDepth 100000 in
theorem wm_477 : Cond.methodLink RL 64 yX6_nodeCount ∈ wsL_law := List.mem_of_getElem? (i := 477) (by decide +kernel)
set_option maxRecDepth 100000 in
theorem wm_478 : Cond.instanceMethod yX6_nodeCount ∈ wsL_law := List.mem_of_getElem? (i := 478) (by decide +kernel)
set_option maxRecDepth 100000 in
theorem wm_479 : Cond.selects RX6 yX6_nodeCount yX6_nodeCount ∈ wsL_law := List.mem_of_getElem? (i := 479) (by decide +kernel)
set_option maxRecDepth 100000 in
theorem wm_480 : Cond.code yX6_nodeCount cX6_nodeCount 1 (some .int) ∈ wsL_law := List.mem_of_getElem? (i := 480) (by decide +kernel)
set_option maxRecDepth 100000 in
theorem wm_481 : Cond.methodLink RX6 127 yX3_total ∈ wsL_law := List.mem_of_getElem? (i := 481) (by decide +kernel)
set_option maxRecDepth 100000 in
theorem wm_482 : Cond.instanceMethod yX3_total ∈ wsL_law := List.mem_of_getElem? (i := 482) (by decide +kernel)
set_option maxRecDepth 100000 in
theorem wm_483 : Cond.selects RX3 yX3_total yX3_total ∈ wsL_law := List.mem_of_getElem? (i := 483) (by decide +kernel)
set_option maxRecDepth 100000 in
theorem wm_484 : Cond.code yX3_total cX3_total 1 (some .int) ∈ wsL_law := List.mem_of_getElem? (i := 484) (by decide +kernel)
set_option maxRecDepth 100000 in
theorem wm_485 : Cond.methodLink RL 67 yX7_nodeCount ∈ wsL_law := List.mem_of_getElem? (i := 485) (by decide +kernel)
set_option maxRecDepth 100000 in
theorem wm_486 : Cond.instanceMethod yX7_nodeCount ∈ wsL_law := List.mem_of_getElem? (i := 486) (by decide +kernel)
set_option maxRecDepth 100000 in
theorem wm_487 : Cond.selects RX7 yX7_nodeCount yX7_nodeCount ∈ wsL_law := List.mem_of_getElem? (i := 487) (by decide +kernel)
set_option maxRecDepth 100000 in
theorem wm_488 : Cond.code yX7_nodeCount cX7_nodeCount 1 (some .int) ∈ wsL_law := List.mem_of_getElem? (i := 488) (by decide +kernel)
set_option maxRecDepth 100000 in
theorem wm_489 : Cond.fieldLink RX7 100 "IslandGrammarModel" "nodes" "I" ∈ wsL_law := List.mem_of_getElem? (i := 489) (by decide +kernel)
set_option maxRecDepth 100000 in
theorem wm_490 : Cond.methodLink RX7 130 yX7_parse ∈ wsL_law := List.mem_of_getElem? (i := 490) (by decide +kernel)
set_option maxRecDepth 100000 in
theorem wm_491 : Cond.instanceMethod yX7_parse ∈ wsL_law := List.mem_of_getElem? (i := 491) (by decide +kernel)
set_option maxRecDepth 100000 in
theorem wm_492 : Cond.selects RX7 yX7_parse yX7_parse ∈ wsL_law := List.mem_of_getElem? (i := 492) (by decide +kernel)
set_option maxRecDepth 100000 in
theorem wm_493 : Cond.code yX7_parse cX7_parse 4 none ∈ wsL_law := List.mem_of_getElem? (i := 493) (by decide +kernel)
set_option maxRecDepth 100000 in
theorem wm_494 : Cond.fieldLink RX7 114 "IslandGrammarModel" "water" "I" ∈ wsL_law := List.mem_of_getElem? (i := 494) (by decide +kernel)
set_option maxRecDepth 100000 in
theorem wm_495 : Cond.fieldLink RX7 117 "IslandGrammarModel" "longest" "I" ∈ wsL_law := List.mem_of_getElem? (i := 495) (by decide +kernel)
set_option maxRecDepth 100000 in
theorem wm_496 : Cond.fieldLink RX7 120 "IslandGrammarModel" "islands" "I" ∈ wsL_law := List.mem_of_getElem? (i := 496) (by decide +kernel)
set_option maxRecDepth 100000 in
theorem wm_497 : Cond.methodLink RX7 104 yX7_addNode ∈ wsL_law := List.mem_of_getElem? (i := 497) (by decide +kernel)
set_option maxRecDepth 100000 in
theorem wm_498 : Cond.instanceMethod yX7_addNode ∈ wsL_law := List.mem_of_getElem? (i := 498) (by decide +kernel)
set_option maxRecDepth 100000 in
theorem wm_499 : Cond.selects RX7 yX7_addNode yX7_addNode ∈ wsL_law := List.mem_of_getElem? (i := 499) (by decide +kernel)
set_option maxRecDepth 100000 in
theorem wm_500 : Cond.code yX7_addNode cX7_addNode 4 none ∈ wsL_law := List.mem_of_getElem? (i := 500) (by decide +kernel)
set_option maxRecDepth 100000 in
theorem wm_501 : Cond.methodLink RX7 123 yX7_follow ∈ wsL_law := List.mem_of_getElem? (i := 501) (by decide +kernel)
set_option maxRecDepth 100000 in
theorem wm_502 : Cond.instanceMethod yX7_follow ∈ wsL_law := List.mem_of_getElem? (i := 502) (by decide +kernel)
set_option maxRecDepth 100000 in
theorem wm_503 : Cond.selects RX7 yX7_follow yX7_follow ∈ wsL_law := List.mem_of_getElem? (i := 503) (by decide +kernel)
set_option maxRecDepth 100000 in
theorem wm_504 : Cond.code yX7_follow cX7_follow 6 none ∈ wsL_law := List.mem_of_getElem? (i := 504) (by decide +kernel)
set_option maxRecDepth 100000 in
theorem wm_505 : Cond.methodLink RX7 108 yX7_followWater ∈ wsL_law := List.mem_of_getElem? (i := 505) (by decide +kernel)
set_option maxRecDepth 100000 in
theorem wm_506 : Cond.instanceMethod yX7_followWater ∈ wsL_law := List.mem_of_getElem? (i := 506) (by decide +kernel)
set_option maxRecDepth 100000 in
theorem wm_507 : Cond.selects RX7 yX7_followWater yX7_followWater ∈ wsL_law := List.mem_of_getElem? (i := 507) (by decide +kernel)
set_option maxRecDepth 100000 in
theorem wm_508 : Cond.code yX7_followWater cX7_followWater 6 (some .int) ∈ wsL_law := List.mem_of_getElem? (i := 508) (by decide +kernel)
set_option maxRecDepth 100000 in
theorem wm_509 : Cond.methodLink RX7 111 yX7_numberAt ∈ wsL_law := List.mem_of_getElem? (i := 509) (by decide +kernel)
set_option maxRecDepth 100000 in
theorem wm_510 : Cond.instanceMethod yX7_numberAt ∈ wsL_law := List.mem_of_getElem? (i := 510) (by decide +kernel)
set_option maxRecDepth 100000 in
theorem wm_511 : Cond.selects RX7 yX7_numberAt yX7_numberAt ∈ wsL_law := List.mem_of_getElem? (i := 511) (by decide +kernel)
set_option maxRecDepth 100000 in
theorem wm_512 : Cond.code yX7_numberAt cX7_numberAt 4 (some .int) ∈ wsL_law := List.mem_of_getElem? (i := 512) (by decide +kernel)
set_option maxRecDepth 100000 in
theorem wm_513 : Cond.constant RX7 103 (1000000) ∈ wsL_law := List.mem_of_getElem? (i := 513) (by decide +kernel)
set_option maxRecDepth 100000 in
theorem wm_514 : Cond.methodLink RL 68 yX6_islandCount ∈ wsL_law := List.mem_of_getElem? (i := 514) (by decide +kernel)
set_option maxRecDepth 100000 in
theorem wm_515 : Cond.instanceMethod yX6_islandCount ∈ wsL_law := List.mem_of_getElem? (i := 515) (by decide +kernel)
set_option maxRecDepth 100000 in
theorem wm_516 : Cond.selects RX6 yX6_islandCount yX6_islandCount ∈ wsL_law := List.mem_of_getElem? (i := 516) (by decide +kernel)
set_option maxRecDepth 100000 in
theorem wm_517 : Cond.code yX6_islandCount cX6_islandCount 1 (some .int) ∈ wsL_law := List.mem_of_getElem? (i := 517) (by decide +kernel)
set_option maxRecDepth 100000 in
theorem wm_518 : Cond.methodLink RX6 130 yX3_topLevelTotal ∈ wsL_law := List.mem_of_getElem? (i := 518) (by decide +kernel)
set_option maxRecDepth 100000 in
theorem wm_519 : Cond.instanceMethod yX3_topLevelTotal ∈ wsL_law := List.mem_of_getElem? (i := 519) (by decide +kernel)
set_option maxRecDepth 100000 in
theorem wm_520 : Cond.selects RX3 yX3_topLevelTotal yX3_topLevelTotal ∈ wsL_law := List.mem_of_getElem? (i := 520) (by decide +kernel)
set_option maxRecDepth 100000 in
theorem wm_521 : Cond.code yX3_topLevelTotal cX3_topLevelTotal 1 (some .int) ∈ wsL_law := List.mem_of_getElem? (i := 521) (by decide +kernel)
set_option maxRecDepth 100000 in
theorem wm_522 : Cond.methodLink RL 71 yX7_islandCount ∈ wsL_law := List.mem_of_getElem? (i := 522) (by decide +kernel)
set_option maxRecDepth 100000 in
theorem wm_523 : Cond.instanceMethod yX7_islandCount ∈ wsL_law := List.mem_of_getElem? (i := 523) (by decide +kernel)
set_option maxRecDepth 100000 in
theorem wm_524 : Cond.selects RX7 yX7_islandCount yX7_islandCount ∈ wsL_law := List.mem_of_getElem? (i := 524) (by decide +kernel)
set_option maxRecDepth 100000 in
theorem wm_525 : Cond.code yX7_islandCount cX7_islandCount 1 (some .int) ∈ wsL_law := List.mem_of_getElem? (i := 525) (by decide +kernel)
set_option maxRecDepth 100000 in
theorem wm_526 : Cond.methodLink RL 72 yX6_nodeRule ∈ wsL_law := List.mem_of_getElem? (i := 526) (by decide +kernel)
set_option maxRecDepth 100000 in
theorem wm_527 : Cond.instanceMethod yX6_nodeRule ∈ wsL_law := List.mem_of_getElem? (i := 527) (by decide +kernel)
set_option maxRecDepth 100000 in
theorem wm_528 : Cond.selects RX6 yX6_nodeRule yX6_nodeRule ∈ wsL_law := List.mem_of_getElem? (i := 528) (by decide +kernel)
set_option maxRecDepth 100000 in
theorem wm_529 : Cond.code yX6_nodeRule cX6_nodeRule 2 (some .int) ∈ wsL_law := List.mem_of_getElem? (i := 529) (by decide +kernel)
set_option maxRecDepth 100000 in
theorem wm_530 : Cond.methodLink RX6 133 yX3_has ∈ wsL_law := List.mem_of_getElem? (i := 530) (by decide +kernel)
set_option maxRecDepth 100000 in
theorem wm_531 : Cond.instanceMethod yX3_has ∈ wsL_law := List.mem_of_getElem? (i := 531) (by decide +kernel)
set_option maxRecDepth 100000 in
theorem wm_532 : Cond.selects RX3 yX3_has yX3_has ∈ wsL_law := List.mem_of_getElem? (i := 532) (by decide +kernel)
set_option maxRecDepth 100000 in
theorem wm_533 : Cond.code yX3_has cX3_has 2 (some .boolean) ∈ wsL_law := List.mem_of_getElem? (i := 533) (by decide +kernel)
set_option maxRecDepth 100000 in
theorem wm_534 : Cond.methodLink RX6 136 yX3_ruleOf ∈ wsL_law := List.mem_of_getElem? (i := 534) (by decide +kernel)
set_option maxRecDepth 100000 in
theorem wm_535 : Cond.instanceMethod yX3_ruleOf ∈ wsL_law := List.mem_of_getElem? (i := 535) (by decide +kernel)
set_option maxRecDepth 100000 in
theorem wm_536 : Cond.selects RX3 yX3_ruleOf yX3_ruleOf ∈ wsL_law := List.mem_of_getElem? (i := 536) (by decide +kernel)
set_option maxRecDepth 100000 in
theorem wm_537 : Cond.code yX3_ruleOf cX3_ruleOf 2 (some .int) ∈ wsL_law := List.mem_of_getElem? (i := 537) (by decide +kernel)
set_option maxRecDepth 100000 in
theorem wm_538 : Cond.methodLink RL 75 yX7_nodeRule ∈ wsL_law := List.mem_of_getElem? (i := 538) (by decide +kernel)
set_option maxRecDepth 100000 in
theorem wm_539 : Cond.instanceMethod yX7_nodeRule ∈ wsL_law := List.mem_of_getElem? (i := 539) (by decide +kernel)
set_option maxRecDepth 100000 in
theorem wm_540 : Cond.selects RX7 yX7_nodeRule yX7_nodeRule ∈ wsL_law := List.mem_of_getElem? (i := 540) (by decide +kernel)
set_option maxRecDepth 100000 in
theorem wm_541 : Cond.code yX7_nodeRule cX7_nodeRule 2 (some .int) ∈ wsL_law := List.mem_of_getElem? (i := 541) (by decide +kernel)
set_option maxRecDepth 100000 in
theorem wm_542 : Cond.methodLink RX7 145 yX7_askNode ∈ wsL_law := List.mem_of_getElem? (i := 542) (by decide +kernel)
set_option maxRecDepth 100000 in
theorem wm_543 : Cond.instanceMethod yX7_askNode ∈ wsL_law := List.mem_of_getElem? (i := 543) (by decide +kernel)
set_option maxRecDepth 100000 in
theorem wm_544 : Cond.selects RX7 yX7_askNode yX7_askNode ∈ wsL_law := List.mem_of_getElem? (i := 544) (by decide +kernel)
set_option maxRecDepth 100000 in
theorem wm_545 : Cond.code yX7_askNode cX7_askNode 4 (some .int) ∈ wsL_law := List.mem_of_getElem? (i := 545) (by decide +kernel)
set_option maxRecDepth 100000 in
theorem wm_546 : Cond.methodLink RX7 133 yX7_foundOf ∈ wsL_law := List.mem_of_getElem? (i := 546) (by decide +kernel)
set_option maxRecDepth 100000 in
theorem wm_547 : Cond.instanceMethod yX7_foundOf ∈ wsL_law := List.mem_of_getElem? (i := 547) (by decide +kernel)
set_option maxRecDepth 100000 in
theorem wm_548 : Cond.selects RX7 yX7_foundOf yX7_foundOf ∈ wsL_law := List.mem_of_getElem? (i := 548) (by decide +kernel)
set_option maxRecDepth 100000 in
theorem wm_549 : Cond.code yX7_foundOf cX7_foundOf 3 (some .int) ∈ wsL_law := List.mem_of_getElem? (i := 549) (by decide +kernel)
set_option maxRecDepth 100000 in
theorem wm_550 : Cond.methodLink RX7 127 yX7_numberOf ∈ wsL_law := List.mem_of_getElem? (i := 550) (by decide +kernel)
set_option maxRecDepth 100000 in
theorem wm_551 : Cond.instanceMethod yX7_numberOf ∈ wsL_law := List.mem_of_getElem? (i := 551) (by decide +kernel)
set_option maxRecDepth 100000 in
theorem wm_552 : Cond.selects RX7 yX7_numberOf yX7_numberOf ∈ wsL_law := List.mem_of_getElem? (i := 552) (by decide +kernel)
set_option maxRecDepth 100000 in
theorem wm_553 : Cond.code yX7_numberOf cX7_numberOf 4 (some .int) ∈ wsL_law := List.mem_of_getElem? (i := 553) (by decide +kernel)
set_option maxRecDepth 100000 in
theorem wm_554 : Cond.methodLink RX7 136 yX7_endOf ∈ wsL_law := List.mem_of_getElem? (i := 554) (by decide +kernel)
set_option maxRecDepth 100000 in
theorem wm_555 : Cond.instanceMethod yX7_endOf ∈ wsL_law := List.mem_of_getElem? (i := 555) (by decide +kernel)
set_option maxRecDepth 100000 in
theorem wm_556 : Cond.selects RX7 yX7_endOf yX7_endOf ∈ wsL_law := List.mem_of_getElem? (i := 556) (by decide +kernel)
set_option maxRecDepth 100000 in
theorem wm_557 : Cond.code yX7_endOf cX7_endOf 2 (some .int) ∈ wsL_law := List.mem_of_getElem? (i := 557) (by decide +kernel)
set_option maxRecDepth 100000 in
theorem wm_558 : Cond.methodLink RX7 139 yX7_parentOf ∈ wsL_law := List.mem_of_getElem? (i := 558) (by decide +kernel)
set_option maxRecDepth 100000 in
theorem wm_559 : Cond.instanceMethod yX7_parentOf ∈ wsL_law := List.mem_of_getElem? (i := 559) (by decide +kernel)
set_option maxRecDepth 100000 in
theorem wm_560 : Cond.selects RX7 yX7_parentOf yX7_parentOf ∈ wsL_law := List.mem_of_getElem? (i := 560) (by decide +kernel)
set_option maxRecDepth 100000 in
theorem wm_561 : Cond.code yX7_parentOf cX7_parentOf 2 (some .int) ∈ wsL_law := List.mem_of_getElem? (i := 561) (by decide +kernel)
set_option maxRecDepth 100000 in
theorem wm_562 : Cond.methodLink RX7 142 yX7_depthOf ∈ wsL_law := List.mem_of_getElem? (i := 562) (by decide +kernel)
set_option maxRecDepth 100000 in
theorem wm_563 : Cond.instanceMethod yX7_depthOf ∈ wsL_law := List.mem_of_getElem? (i := 563) (by decide +kernel)
set_option maxRecDepth 100000 in
theorem wm_564 : Cond.selects RX7 yX7_depthOf yX7_depthOf ∈ wsL_law := List.mem_of_getElem? (i := 564) (by decide +kernel)
set_option maxRecDepth 100000 in
theorem wm_565 : Cond.code yX7_depthOf cX7_depthOf 4 (some .int) ∈ wsL_law := List.mem_of_getElem? (i := 565) (by decide +kernel)
set_option maxRecDepth 100000 in
theorem wm_566 : Cond.methodLink RL 76 yX6_nodeStart ∈ wsL_law := List.mem_of_getElem? (i := 566) (by decide +kernel)
set_option maxRecDepth 100000 in
theorem wm_567 : Cond.instanceMethod yX6_nodeStart ∈ wsL_law := List.mem_of_getElem? (i := 567) (by decide +kernel)
set_option maxRecDepth 100000 in
theorem wm_568 : Cond.selects RX6 yX6_nodeStart yX6_nodeStart ∈ wsL_law := List.mem_of_getElem? (i := 568) (by decide +kernel)
set_option maxRecDepth 100000 in
theorem wm_569 : Cond.code yX6_nodeStart cX6_nodeStart 2 (some .int) ∈ wsL_law := List.mem_of_getElem? (i := 569) (by decide +kernel)
set_option maxRecDepth 100000 in
theorem wm_570 : Cond.methodLink RX6 139 yX3_startOf ∈ wsL_law := List.mem_of_getElem? (i := 570) (by decide +kernel)
set_option maxRecDepth 100000 in
theorem wm_571 : Cond.instanceMethod yX3_startOf ∈ wsL_law := List.mem_of_getElem? (i := 571) (by decide +kernel)
set_option maxRecDepth 100000 in
theorem wm_572 : Cond.selects RX3 yX3_startOf yX3_startOf ∈ wsL_law := List.mem_of_getElem? (i := 572) (by decide +kernel)
set_option maxRecDepth 100000 in
theorem wm_573 : Cond.code yX3_startOf cX3_startOf 2 (some .int) ∈ wsL_law := List.mem_of_getElem? (i := 573) (by decide +kernel)
set_option maxRecDepth 100000 in
theorem wm_574 : Cond.methodLink RL 79 yX7_nodeStart ∈ wsL_law := List.mem_of_getElem? (i := 574) (by decide +kernel)
set_option maxRecDepth 100000 in
theorem wm_575 : Cond.instanceMethod yX7_nodeStart ∈ wsL_law := List.mem_of_getElem? (i := 575) (by decide +kernel)
set_option maxRecDepth 100000 in
theorem wm_576 : Cond.selects RX7 yX7_nodeStart yX7_nodeStart ∈ wsL_law := List.mem_of_getElem? (i := 576) (by decide +kernel)
set_option maxRecDepth 100000 in
theorem wm_577 : Cond.code yX7_nodeStart cX7_nodeStart 2 (some .int) ∈ wsL_law := List.mem_of_getElem? (i := 577) (by decide +kernel)
set_option maxRecDepth 100000 in
theorem wm_578 : Cond.methodLink RL 80 yX6_nodeEnd ∈ wsL_law := List.mem_of_getElem? (i := 578) (by decide +kernel)
set_option maxRecDepth 100000 in
theorem wm_579 : Cond.instanceMethod yX6_nodeEnd ∈ wsL_law := List.mem_of_getElem? (i := 579) (by decide +kernel)
set_option maxRecDepth 100000 in
theorem wm_580 : Cond.selects RX6 yX6_nodeEnd yX6_nodeEnd ∈ wsL_law := List.mem_of_getElem? (i := 580) (by decide +kernel)
set_option maxRecDepth 100000 in
theorem wm_581 : Cond.code yX6_nodeEnd cX6_nodeEnd 2 (some .int) ∈ wsL_law := List.mem_of_getElem? (i := 581) (by decide +kernel)
set_option maxRecDepth 100000 in
theorem wm_582 : Cond.methodLink RX6 142 yX3_endOf ∈ wsL_law := List.mem_of_getElem? (i := 582) (by decide +kernel)
set_option maxRecDepth 100000 in
theorem wm_583 : Cond.instanceMethod yX3_endOf ∈ wsL_law := List.mem_of_getElem? (i := 583) (by decide +kernel)
set_option maxRecDepth 100000 in
theorem wm_584 : Cond.selects RX3 yX3_endOf yX3_endOf ∈ wsL_law := List.mem_of_getElem? (i := 584) (by decide +kernel)
set_option maxRecDepth 100000 in
theorem wm_585 : Cond.code yX3_endOf cX3_endOf 2 (some .int) ∈ wsL_law := List.mem_of_getElem? (i := 585) (by decide +kernel)
set_option maxRecDepth 100000 in
theorem wm_586 : Cond.methodLink RL 83 yX7_nodeEnd ∈ wsL_law := List.mem_of_getElem? (i := 586) (by decide +kernel)
set_option maxRecDepth 100000 in
theorem wm_587 : Cond.instanceMethod yX7_nodeEnd ∈ wsL_law := List.mem_of_getElem? (i := 587) (by decide +kernel)
set_option maxRecDepth 100000 in
theorem wm_588 : Cond.selects RX7 yX7_nodeEnd yX7_nodeEnd ∈ wsL_law := List.mem_of_getElem? (i := 588) (by decide +kernel)
set_option maxRecDepth 100000 in
theorem wm_589 : Cond.code yX7_nodeEnd cX7_nodeEnd 2 (some .int) ∈ wsL_law := List.mem_of_getElem? (i := 589) (by decide +kernel)
set_option maxRecDepth 100000 in
theorem wm_590 : Cond.methodLink RL 84 yX6_nodeParent ∈ wsL_law := List.mem_of_getElem? (i := 590) (by decide +kernel)
set_option maxRecDepth 100000 in
theorem wm_591 : Cond.instanceMethod yX6_nodeParent ∈ wsL_law := List.mem_of_getElem? (i := 591) (by decide +kernel)
set_option maxRecDepth 100000 in
theorem wm_592 : Cond.selects RX6 yX6_nodeParent yX6_nodeParent ∈ wsL_law := List.mem_of_getElem? (i := 592) (by decide +kernel)
set_option maxRecDepth 100000 in
theorem wm_593 : Cond.code yX6_nodeParent cX6_nodeParent 2 (some .int) ∈ wsL_law := List.mem_of_getElem? (i := 593) (by decide +kernel)
set_option maxRecDepth 100000 in
theorem wm_594 : Cond.methodLink RX6 145 yX3_parentOf ∈ wsL_law := List.mem_of_getElem? (i := 594) (by decide +kernel)
set_option maxRecDepth 100000 in
theorem wm_595 : Cond.instanceMethod yX3_parentOf ∈ wsL_law := List.mem_of_getElem? (i := 595) (by decide +kernel)
set_option maxRecDepth 100000 in
theorem wm_596 : Cond.selects RX3 yX3_parentOf yX3_parentOf ∈ wsL_law := List.mem_of_getElem? (i := 596) (by decide +kernel)
set_option maxRecDepth 100000 in
theorem wm_597 : Cond.code yX3_parentOf cX3_parentOf 2 (some .int) ∈ wsL_law := List.mem_of_getElem? (i := 597) (by decide +kernel)
set_option maxRecDepth 100000 in
theorem wm_598 : Cond.methodLink RL 87 yX7_nodeParent ∈ wsL_law := List.mem_of_getElem? (i := 598) (by decide +kernel)
set_option maxRecDepth 100000 in
theorem wm_599 : Cond.instanceMethod yX7_nodeParent ∈ wsL_law := List.mem_of_getElem? (i := 599) (by decide +kernel)
set_option maxRecDepth 100000 in
theorem wm_600 : Cond.selects RX7 yX7_nodeParent yX7_nodeParent ∈ wsL_law := List.mem_of_getElem? (i := 600) (by decide +kernel)
set_option maxRecDepth 100000 in
theorem wm_601 : Cond.code yX7_nodeParent cX7_nodeParent 2 (some .int) ∈ wsL_law := List.mem_of_getElem? (i := 601) (by decide +kernel)
set_option maxRecDepth 100000 in
theorem wm_602 : Cond.methodLink RL 88 yX6_nodeDepth ∈ wsL_law := List.mem_of_getElem? (i := 602) (by decide +kernel)
set_option maxRecDepth 100000 in
theorem wm_603 : Cond.instanceMethod yX6_nodeDepth ∈ wsL_law := List.mem_of_getElem? (i := 603) (by decide +kernel)
set_option maxRecDepth 100000 in
theorem wm_604 : Cond.selects RX6 yX6_nodeDepth yX6_nodeDepth ∈ wsL_law := List.mem_of_getElem? (i := 604) (by decide +kernel)
set_option maxRecDepth 100000 in
theorem wm_605 : Cond.code yX6_nodeDepth cX6_nodeDepth 2 (some .int) ∈ wsL_law := List.mem_of_getElem? (i := 605) (by decide +kernel)
set_option maxRecDepth 100000 in
theorem wm_606 : Cond.methodLink RX6 148 yX3_depthOf ∈ wsL_law := List.mem_of_getElem? (i := 606) (by decide +kernel)
set_option maxRecDepth 100000 in
theorem wm_607 : Cond.instanceMethod yX3_depthOf ∈ wsL_law := List.mem_of_getElem? (i := 607) (by decide +kernel)
set_option maxRecDepth 100000 in
theorem wm_608 : Cond.selects RX3 yX3_depthOf yX3_depthOf ∈ wsL_law := List.mem_of_getElem? (i := 608) (by decide +kernel)
set_option maxRecDepth 100000 in
theorem wm_609 : Cond.code yX3_depthOf cX3_depthOf 2 (some .int) ∈ wsL_law := List.mem_of_getElem? (i := 609) (by decide +kernel)
set_option maxRecDepth 100000 in
theorem wm_610 : Cond.methodLink RL 91 yX7_nodeDepth ∈ wsL_law := List.mem_of_getElem? (i := 610) (by decide +kernel)
set_option maxRecDepth 100000 in
theorem wm_611 : Cond.instanceMethod yX7_nodeDepth ∈ wsL_law := List.mem_of_getElem? (i := 611) (by decide +kernel)
set_option maxRecDepth 100000 in
theorem wm_612 : Cond.selects RX7 yX7_nodeDepth yX7_nodeDepth ∈ wsL_law := List.mem_of_getElem? (i := 612) (by decide +kernel)
set_option maxRecDepth 100000 in
theorem wm_613 : Cond.code yX7_nodeDepth cX7_nodeDepth 2 (some .int) ∈ wsL_law := List.mem_of_getElem? (i := 613) (by decide +kernel)
set_option maxRecDepth 100000 in
theorem wm_614 : Cond.methodLink RL 92 yX6_nodeWater ∈ wsL_law := List.mem_of_getElem? (i := 614) (by decide +kernel)
set_option maxRecDepth 100000 in
theorem wm_615 : Cond.instanceMethod yX6_nodeWater ∈ wsL_law := List.mem_of_getElem? (i := 615) (by decide +kernel)
set_option maxRecDepth 100000 in
theorem wm_616 : Cond.selects RX6 yX6_nodeWater yX6_nodeWater ∈ wsL_law := List.mem_of_getElem? (i := 616) (by decide +kernel)
set_option maxRecDepth 100000 in
theorem wm_617 : Cond.code yX6_nodeWater cX6_nodeWater 2 (some .int) ∈ wsL_law := List.mem_of_getElem? (i := 617) (by decide +kernel)
set_option maxRecDepth 100000 in
theorem wm_618 : Cond.methodLink RX6 151 yX3_waterOf ∈ wsL_law := List.mem_of_getElem? (i := 618) (by decide +kernel)
set_option maxRecDepth 100000 in
theorem wm_619 : Cond.instanceMethod yX3_waterOf ∈ wsL_law := List.mem_of_getElem? (i := 619) (by decide +kernel)
set_option maxRecDepth 100000 in
theorem wm_620 : Cond.selects RX3 yX3_waterOf yX3_waterOf ∈ wsL_law := List.mem_of_getElem? (i := 620) (by decide +kernel)
set_option maxRecDepth 100000 in
theorem wm_621 : Cond.code yX3_waterOf cX3_waterOf 2 (some .int) ∈ wsL_law := List.mem_of_getElem? (i := 621) (by decide +kernel)
set_option maxRecDepth 100000 in
theorem wm_622 : Cond.methodLink RL 95 yX7_nodeWater ∈ wsL_law := List.mem_of_getElem? (i := 622) (by decide +kernel)
set_option maxRecDepth 100000 in
theorem wm_623 : Cond.instanceMethod yX7_nodeWater ∈ wsL_law := List.mem_of_getElem? (i := 623) (by decide +kernel)
set_option maxRecDepth 100000 in
theorem wm_624 : Cond.selects RX7 yX7_nodeWater yX7_nodeWater ∈ wsL_law := List.mem_of_getElem? (i := 624) (by decide +kernel)
set_option maxRecDepth 100000 in
theorem wm_625 : Cond.code yX7_nodeWater cX7_nodeWater 2 (some .int) ∈ wsL_law := List.mem_of_getElem? (i := 625) (by decide +kernel)
set_option maxRecDepth 100000 in
theorem wm_626 : Cond.methodLink RL 96 yX6_nodeNumber ∈ wsL_law := List.mem_of_getElem? (i := 626) (by decide +kernel)
set_option maxRecDepth 100000 in
theorem wm_627 : Cond.instanceMethod yX6_nodeNumber ∈ wsL_law := List.mem_of_getElem? (i := 627) (by decide +kernel)
set_option maxRecDepth 100000 in
theorem wm_628 : Cond.selects RX6 yX6_nodeNumber yX6_nodeNumber ∈ wsL_law := List.mem_of_getElem? (i := 628) (by decide +kernel)
set_option maxRecDepth 100000 in
theorem wm_629 : Cond.code yX6_nodeNumber cX6_nodeNumber 2 (some .int) ∈ wsL_law := List.mem_of_getElem? (i := 629) (by decide +kernel)
set_option maxRecDepth 100000 in
theorem wm_630 : Cond.methodLink RX6 154 yX3_numberOf ∈ wsL_law := List.mem_of_getElem? (i := 630) (by decide +kernel)
set_option maxRecDepth 100000 in
theorem wm_631 : Cond.instanceMethod yX3_numberOf ∈ wsL_law := List.mem_of_getElem? (i := 631) (by decide +kernel)
set_option maxRecDepth 100000 in
theorem wm_632 : Cond.selects RX3 yX3_numberOf yX3_numberOf ∈ wsL_law := List.mem_of_getElem? (i := 632) (by decide +kernel)
set_option maxRecDepth 100000 in
theorem wm_633 : Cond.code yX3_numberOf cX3_numberOf 2 (some .int) ∈ wsL_law := List.mem_of_getElem? (i := 633) (by decide +kernel)
set_option maxRecDepth 100000 in
theorem wm_634 : Cond.methodLink RL 99 yX7_nodeNumber ∈ wsL_law := List.mem_of_getElem? (i := 634) (by decide +kernel)
set_option maxRecDepth 100000 in
theorem wm_635 : Cond.instanceMethod yX7_nodeNumber ∈ wsL_law := List.mem_of_getElem? (i := 635) (by decide +kernel)
set_option maxRecDepth 100000 in
theorem wm_636 : Cond.selects RX7 yX7_nodeNumber yX7_nodeNumber ∈ wsL_law := List.mem_of_getElem? (i := 636) (by decide +kernel)
set_option maxRecDepth 100000 in
theorem wm_637 : Cond.code yX7_nodeNumber cX7_nodeNumber 2 (some .int) ∈ wsL_law := List.mem_of_getElem? (i := 637) (by decide +kernel)
set_option maxRecDepth 100000 in
theorem wm_638 : Cond.methodLink RL 100 yX6_nodeAt ∈ wsL_law := List.mem_of_getElem? (i := 638) (by decide +kernel)
set_option maxRecDepth 100000 in
theorem wm_639 : Cond.instanceMethod yX6_nodeAt ∈ wsL_law := List.mem_of_getElem? (i := 639) (by decide +kernel)
set_option maxRecDepth 100000 in
theorem wm_640 : Cond.selects RX6 yX6_nodeAt yX6_nodeAt ∈ wsL_law := List.mem_of_getElem? (i := 640) (by decide +kernel)
set_option maxRecDepth 100000 in
theorem wm_641 : Cond.code yX6_nodeAt cX6_nodeAt 2 (some .int) ∈ wsL_law := List.mem_of_getElem? (i := 641) (by decide +kernel)
set_option maxRecDepth 100000 in
theorem wm_642 : Cond.methodLink RX6 157 yX3_innermostAt ∈ wsL_law := List.mem_of_getElem? (i := 642) (by decide +kernel)
set_option maxRecDepth 100000 in
theorem wm_643 : Cond.instanceMethod yX3_innermostAt ∈ wsL_law := List.mem_of_getElem? (i := 643) (by decide +kernel)
set_option maxRecDepth 100000 in
theorem wm_644 : Cond.selects RX3 yX3_innermostAt yX3_innermostAt ∈ wsL_law := List.mem_of_getElem? (i := 644) (by decide +kernel)
set_option maxRecDepth 100000 in
theorem wm_645 : Cond.code yX3_innermostAt cX3_innermostAt 3 (some .int) ∈ wsL_law := List.mem_of_getElem? (i := 645) (by decide +kernel)
set_option maxRecDepth 100000 in
theorem wm_646 : Cond.methodLink RL 103 yX7_nodeAt ∈ wsL_law := List.mem_of_getElem? (i := 646) (by decide +kernel)
set_option maxRecDepth 100000 in
theorem wm_647 : Cond.instanceMethod yX7_nodeAt ∈ wsL_law := List.mem_of_getElem? (i := 647) (by decide +kernel)
set_option maxRecDepth 100000 in
theorem wm_648 : Cond.selects RX7 yX7_nodeAt yX7_nodeAt ∈ wsL_law := List.mem_of_getElem? (i := 648) (by decide +kernel)
set_option maxRecDepth 100000 in
theorem wm_649 : Cond.code yX7_nodeAt cX7_nodeAt 5 (some .int) ∈ wsL_law := List.mem_of_getElem? (i := 649) (by decide +kernel)
set_option maxRecDepth 100000 in
theorem wm_650 : Cond.methodLink RL 104 yX6_waterLength ∈ wsL_law := List.mem_of_getElem? (i := 650) (by decide +kernel)
set_option maxRecDepth 100000 in
theorem wm_651 : Cond.instanceMethod yX6_waterLength ∈ wsL_law := List.mem_of_getElem? (i := 651) (by decide +kernel)
set_option maxRecDepth 100000 in
theorem wm_652 : Cond.selects RX6 yX6_waterLength yX6_waterLength ∈ wsL_law := List.mem_of_getElem? (i := 652) (by decide +kernel)
set_option maxRecDepth 100000 in
theorem wm_653 : Cond.code yX6_waterLength cX6_waterLength 1 (some .int) ∈ wsL_law := List.mem_of_getElem? (i := 653) (by decide +kernel)
set_option maxRecDepth 100000 in
theorem wm_654 : Cond.methodLink RX6 160 yX3_topWater ∈ wsL_law := List.mem_of_getElem? (i := 654) (by decide +kernel)
set_option maxRecDepth 100000 in
theorem wm_655 : Cond.instanceMethod yX3_topWater ∈ wsL_law := List.mem_of_getElem? (i := 655) (by decide +kernel)
set_option maxRecDepth 100000 in
theorem wm_656 : Cond.selects RX3 yX3_topWater yX3_topWater ∈ wsL_law := List.mem_of_getElem? (i := 656) (by decide +kernel)
set_option maxRecDepth 100000 in
theorem wm_657 : Cond.code yX3_topWater cX3_topWater 1 (some .int) ∈ wsL_law := List.mem_of_getElem? (i := 657) (by decide +kernel)
set_option maxRecDepth 100000 in
theorem wm_658 : Cond.methodLink RL 107 yX7_waterLength ∈ wsL_law := List.mem_of_getElem? (i := 658) (by decide +kernel)
set_option maxRecDepth 100000 in
theorem wm_659 : Cond.instanceMethod yX7_waterLength ∈ wsL_law := List.mem_of_getElem? (i := 659) (by decide +kernel)
set_option maxRecDepth 100000 in
theorem wm_660 : Cond.selects RX7 yX7_waterLength yX7_waterLength ∈ wsL_law := List.mem_of_getElem? (i := 660) (by decide +kernel)
set_option maxRecDepth 100000 in
theorem wm_661 : Cond.code yX7_waterLength cX7_waterLength 1 (some .int) ∈ wsL_law := List.mem_of_getElem? (i := 661) (by decide +kernel)
set_option maxRecDepth 100000 in
theorem wm_662 : Cond.methodLink RL 108 yX6_longestWater ∈ wsL_law := List.mem_of_getElem? (i := 662) (by decide +kernel)
set_option maxRecDepth 100000 in
theorem wm_663 : Cond.instanceMethod yX6_longestWater ∈ wsL_law := List.mem_of_getElem? (i := 663) (by decide +kernel)
set_option maxRecDepth 100000 in
theorem wm_664 : Cond.selects RX6 yX6_longestWater yX6_longestWater ∈ wsL_law := List.mem_of_getElem? (i := 664) (by decide +kernel)
set_option maxRecDepth 100000 in
theorem wm_665 : Cond.code yX6_longestWater cX6_longestWater 1 (some .int) ∈ wsL_law := List.mem_of_getElem? (i := 665) (by decide +kernel)
set_option maxRecDepth 100000 in
theorem wm_666 : Cond.methodLink RX6 163 yX3_longestTopWater ∈ wsL_law := List.mem_of_getElem? (i := 666) (by decide +kernel)
set_option maxRecDepth 100000 in
theorem wm_667 : Cond.instanceMethod yX3_longestTopWater ∈ wsL_law := List.mem_of_getElem? (i := 667) (by decide +kernel)
set_option maxRecDepth 100000 in
theorem wm_668 : Cond.selects RX3 yX3_longestTopWater yX3_longestTopWater ∈ wsL_law := List.mem_of_getElem? (i := 668) (by decide +kernel)
set_option maxRecDepth 100000 in
theorem wm_669 : Cond.code yX3_longestTopWater cX3_longestTopWater 1 (some .int) ∈ wsL_law := List.mem_of_getElem? (i := 669) (by decide +kernel)
set_option maxRecDepth 100000 in
theorem wm_670 : Cond.methodLink RL 111 yX7_longestWater ∈ wsL_law := List.mem_of_getElem? (i := 670) (by decide +kernel)
set_option maxRecDepth 100000 in
theorem wm_671 : Cond.instanceMethod yX7_longestWater ∈ wsL_law := List.mem_of_getElem? (i := 671) (by decide +kernel)
set_option maxRecDepth 100000 in
theorem wm_672 : Cond.selects RX7 yX7_longestWater yX7_longestWater ∈ wsL_law := List.mem_of_getElem? (i := 672) (by decide +kernel)
set_option maxRecDepth 100000 in
theorem wm_673 : Cond.code yX7_longestWater cX7_longestWater 1 (some .int) ∈ wsL_law := List.mem_of_getElem? (i := 673) (by decide +kernel)
set_option maxRecDepth 100000 in
theorem wm_674 : Cond.methodLink RL 112 yX6_countOf ∈ wsL_law := List.mem_of_getElem? (i := 674) (by decide +kernel)
set_option maxRecDepth 100000 in
theorem wm_675 : Cond.instanceMethod yX6_countOf ∈ wsL_law := List.mem_of_getElem? (i := 675) (by decide +kernel)
set_option maxRecDepth 100000 in
theorem wm_676 : Cond.selects RX6 yX6_countOf yX6_countOf ∈ wsL_law := List.mem_of_getElem? (i := 676) (by decide +kernel)
set_option maxRecDepth 100000 in
theorem wm_677 : Cond.code yX6_countOf cX6_countOf 2 (some .int) ∈ wsL_law := List.mem_of_getElem? (i := 677) (by decide +kernel)
set_option maxRecDepth 100000 in
theorem wm_678 : Cond.methodLink RX6 166 yX3_totalOf ∈ wsL_law := List.mem_of_getElem? (i := 678) (by decide +kernel)
set_option maxRecDepth 100000 in
theorem wm_679 : Cond.instanceMethod yX3_totalOf ∈ wsL_law := List.mem_of_getElem? (i := 679) (by decide +kernel)
set_option maxRecDepth 100000 in
theorem wm_680 : Cond.selects RX3 yX3_totalOf yX3_totalOf ∈ wsL_law := List.mem_of_getElem? (i := 680) (by decide +kernel)
set_option maxRecDepth 100000 in
theorem wm_681 : Cond.code yX3_totalOf cX3_totalOf 4 (some .int) ∈ wsL_law := List.mem_of_getElem? (i := 681) (by decide +kernel)
set_option maxRecDepth 100000 in
theorem wm_682 : Cond.methodLink RL 115 yX7_countOf ∈ wsL_law := List.mem_of_getElem? (i := 682) (by decide +kernel)
set_option maxRecDepth 100000 in
theorem wm_683 : Cond.instanceMethod yX7_countOf ∈ wsL_law := List.mem_of_getElem? (i := 683) (by decide +kernel)
set_option maxRecDepth 100000 in
theorem wm_684 : Cond.selects RX7 yX7_countOf yX7_countOf ∈ wsL_law := List.mem_of_getElem? (i := 684) (by decide +kernel)
set_option maxRecDepth 100000 in
theorem wm_685 : Cond.code yX7_countOf cX7_countOf 4 (some .int) ∈ wsL_law := List.mem_of_getElem? (i := 685) (by decide +kernel)
set_option maxRecDepth 100000 in
theorem wm_686 : Cond.methodLink RL 116 yX6_undo ∈ wsL_law := List.mem_of_getElem? (i := 686) (by decide +kernel)
set_option maxRecDepth 100000 in
theorem wm_687 : Cond.instanceMethod yX6_undo ∈ wsL_law := List.mem_of_getElem? (i := 687) (by decide +kernel)
set_option maxRecDepth 100000 in
theorem wm_688 : Cond.selects RX6 yX6_undo yX6_undo ∈ wsL_law := List.mem_of_getElem? (i := 688) (by decide +kernel)
set_option maxRecDepth 100000 in
theorem wm_689 : Cond.code yX6_undo cX6_undo 1 (some .int) ∈ wsL_law := List.mem_of_getElem? (i := 689) (by decide +kernel)
set_option maxRecDepth 100000 in
theorem wm_690 : Cond.methodLink RX6 169 yX1_savedCount ∈ wsL_law := List.mem_of_getElem? (i := 690) (by decide +kernel)
set_option maxRecDepth 100000 in
theorem wm_691 : Cond.instanceMethod yX1_savedCount ∈ wsL_law := List.mem_of_getElem? (i := 691) (by decide +kernel)
set_option maxRecDepth 100000 in
theorem wm_692 : Cond.selects RX1 yX1_savedCount yX1_savedCount ∈ wsL_law := List.mem_of_getElem? (i := 692) (by decide +kernel)
set_option maxRecDepth 100000 in
theorem wm_693 : Cond.code yX1_savedCount cX1_savedCount 1 (some .int) ∈ wsL_law := List.mem_of_getElem? (i := 693) (by decide +kernel)
set_option maxRecDepth 100000 in
theorem wm_694 : Cond.methodLink RX6 172 yX1_restore ∈ wsL_law := List.mem_of_getElem? (i := 694) (by decide +kernel)
set_option maxRecDepth 100000 in
theorem wm_695 : Cond.instanceMethod yX1_restore ∈ wsL_law := List.mem_of_getElem? (i := 695) (by decide +kernel)
set_option maxRecDepth 100000 in
theorem wm_696 : Cond.selects RX1 yX1_restore yX1_restore ∈ wsL_law := List.mem_of_getElem? (i := 696) (by decide +kernel)
set_option maxRecDepth 100000 in
theorem wm_697 : Cond.code yX1_restore cX1_restore 2 none ∈ wsL_law := List.mem_of_getElem? (i := 697) (by decide +kernel)
set_option maxRecDepth 100000 in
theorem wm_698 : Cond.methodLink RX1 39 Lib.Math.max.name ∈ wsL_law := List.mem_of_getElem? (i := 698) (by decide +kernel)
set_option maxRecDepth 100000 in
theorem wm_699 : Cond.methodLink RL 119 yX7_undo ∈ wsL_law := List.mem_of_getElem? (i := 699) (by decide +kernel)
set_option maxRecDepth 100000 in
theorem wm_700 : Cond.instanceMethod yX7_undo ∈ wsL_law := List.mem_of_getElem? (i := 700) (by decide +kernel)
set_option maxRecDepth 100000 in
theorem wm_701 : Cond.selects RX7 yX7_undo yX7_undo ∈ wsL_law := List.mem_of_getElem? (i := 701) (by decide +kernel)
set_option maxRecDepth 100000 in
theorem wm_702 : Cond.code yX7_undo cX7_undo 2 (some .int) ∈ wsL_law := List.mem_of_getElem? (i := 702) (by decide +kernel)
set_option maxRecDepth 100000 in
theorem wm_703 : Cond.methodLink RL 120 yX6_errorCount ∈ wsL_law := List.mem_of_getElem? (i := 703) (by decide +kernel)
set_option maxRecDepth 100000 in
theorem wm_704 : Cond.instanceMethod yX6_errorCount ∈ wsL_law := List.mem_of_getElem? (i := 704) (by decide +kernel)
set_option maxRecDepth 100000 in
theorem wm_705 : Cond.selects RX6 yX6_errorCount yX6_errorCount ∈ wsL_law := List.mem_of_getElem? (i := 705) (by decide +kernel)
set_option maxRecDepth 100000 in
theorem wm_706 : Cond.code yX6_errorCount cX6_errorCount 2 (some .int) ∈ wsL_law := List.mem_of_getElem? (i := 706) (by decide +kernel)
set_option maxRecDepth 100000 in
theorem wm_707 : Cond.methodLink RL 123 yX7_errorCount ∈ wsL_law := List.mem_of_getElem? (i := 707) (by decide +kernel)
set_option maxRecDepth 100000 in
theorem wm_708 : Cond.instanceMethod yX7_errorCount ∈ wsL_law := List.mem_of_getElem? (i := 708) (by decide +kernel)
set_option maxRecDepth 100000 in
theorem wm_709 : Cond.selects RX7 yX7_errorCount yX7_errorCount ∈ wsL_law := List.mem_of_getElem? (i := 709) (by decide +kernel)
set_option maxRecDepth 100000 in
theorem wm_710 : Cond.code yX7_errorCount cX7_errorCount 2 (some .int) ∈ wsL_law := List.mem_of_getElem? (i := 710) (by decide +kernel)
set_option maxRecDepth 100000 in
theorem wm_711 : Cond.methodLink RL 124 yX6_digest ∈ wsL_law := List.mem_of_getElem? (i := 711) (by decide +kernel)
set_option maxRecDepth 100000 in
theorem wm_712 : Cond.instanceMethod yX6_digest ∈ wsL_law := List.mem_of_getElem? (i := 712) (by decide +kernel)
set_option maxRecDepth 100000 in
theorem wm_713 : Cond.selects RX6 yX6_digest yX6_digest ∈ wsL_law := List.mem_of_getElem? (i := 713) (by decide +kernel)
set_option maxRecDepth 100000 in
theorem wm_714 : Cond.code yX6_digest cX6_digest 3 (some .long) ∈ wsL_law := List.mem_of_getElem? (i := 714) (by decide +kernel)
set_option maxRecDepth 100000 in
theorem wm_715 : Cond.constantLong RX6 175 (17305) ∈ wsL_law := List.mem_of_getElem? (i := 715) (by decide +kernel)
set_option maxRecDepth 100000 in
theorem wm_716 : Cond.methodLink RX6 177 yX4_mixInto ∈ wsL_law := List.mem_of_getElem? (i := 716) (by decide +kernel)
set_option maxRecDepth 100000 in
theorem wm_717 : Cond.instanceMethod yX4_mixInto ∈ wsL_law := List.mem_of_getElem? (i := 717) (by decide +kernel)
set_option maxRecDepth 100000 in
theorem wm_718 : Cond.selects RX4 yX4_mixInto yX4_mixInto ∈ wsL_law := List.mem_of_getElem? (i := 718) (by decide +kernel)
set_option maxRecDepth 100000 in
theorem wm_719 : Cond.code yX4_mixInto cX4_mixInto 8 (some .long) ∈ wsL_law := List.mem_of_getElem? (i := 719) (by decide +kernel)
set_option maxRecDepth 100000 in
theorem wm_720 : Cond.methodLink RX4 21 yX4_get ∈ wsL_law := List.mem_of_getElem? (i := 720) (by decide +kernel)
set_option maxRecDepth 100000 in
theorem wm_721 : Cond.static yX6_mix ∈ wsL_law := List.mem_of_getElem? (i := 721) (by decide +kernel)
set_option maxRecDepth 100000 in
theorem wm_722 : Cond.code yX6_mix cX6_mix 4 (some .long) ∈ wsL_law := List.mem_of_getElem? (i := 722) (by decide +kernel)
set_option maxRecDepth 100000 in
theorem wm_723 : Cond.constantLong RX6 192 (31) ∈ wsL_law := List.mem_of_getElem? (i := 723) (by decide +kernel)
set_option maxRecDepth 100000 in
theorem wm_724 : Cond.methodLink RX6 181 yX6_mix ∈ wsL_law := List.mem_of_getElem? (i := 724) (by decide +kernel)
set_option maxRecDepth 100000 in
theorem wm_725 : Cond.methodLink RX6 185 yX5_mixInto ∈ wsL_law := List.mem_of_getElem? (i := 725) (by decide +kernel)
set_option maxRecDepth 100000 in
theorem wm_726 : Cond.instanceMethod yX5_mixInto ∈ wsL_law := List.mem_of_getElem? (i := 726) (by decide +kernel)
set_option maxRecDepth 100000 in
theorem wm_727 : Cond.selects RX5 yX5_mixInto yX5_mixInto ∈ wsL_law := List.mem_of_getElem? (i := 727) (by decide +kernel)
set_option maxRecDepth 100000 in
theorem wm_728 : Cond.code yX5_mixInto cX5_mixInto 7 (some .long) ∈ wsL_law := List.mem_of_getElem? (i := 728) (by decide +kernel)
set_option maxRecDepth 100000 in
theorem wm_729 : Cond.methodLink RX5 56 yX4_mixInto ∈ wsL_law := List.mem_of_getElem? (i := 729) (by decide +kernel)
set_option maxRecDepth 100000 in
theorem wm_730 : Cond.methodLink RX5 60 yX5_patternSize ∈ wsL_law := List.mem_of_getElem? (i := 730) (by decide +kernel)
set_option maxRecDepth 100000 in
theorem wm_731 : Cond.methodLink RX5 63 yX5_stopOf ∈ wsL_law := List.mem_of_getElem? (i := 731) (by decide +kernel)
set_option maxRecDepth 100000 in
theorem wm_732 : Cond.methodLink RX6 188 yX3_mixInto ∈ wsL_law := List.mem_of_getElem? (i := 732) (by decide +kernel)
set_option maxRecDepth 100000 in
theorem wm_733 : Cond.instanceMethod yX3_mixInto ∈ wsL_law := List.mem_of_getElem? (i := 733) (by decide +kernel)
set_option maxRecDepth 100000 in
theorem wm_734 : Cond.selects RX3 yX3_mixInto yX3_mixInto ∈ wsL_law := List.mem_of_getElem? (i := 734) (by decide +kernel)
set_option maxRecDepth 100000 in
theorem wm_735 : Cond.code yX3_mixInto cX3_mixInto 6 (some .long) ∈ wsL_law := List.mem_of_getElem? (i := 735) (by decide +kernel)
set_option maxRecDepth 100000 in
theorem wm_736 : Cond.methodLink RL 128 yX7_digest ∈ wsL_law := List.mem_of_getElem? (i := 736) (by decide +kernel)
set_option maxRecDepth 100000 in
theorem wm_737 : Cond.instanceMethod yX7_digest ∈ wsL_law := List.mem_of_getElem? (i := 737) (by decide +kernel)
set_option maxRecDepth 100000 in
theorem wm_738 : Cond.selects RX7 yX7_digest yX7_digest ∈ wsL_law := List.mem_of_getElem? (i := 738) (by decide +kernel)
set_option maxRecDepth 100000 in
theorem wm_739 : Cond.code yX7_digest cX7_digest 3 (some .long) ∈ wsL_law := List.mem_of_getElem? (i := 739) (by decide +kernel)
set_option maxRecDepth 100000 in
theorem wm_740 : Cond.constantLong RX7 157 (17305) ∈ wsL_law := List.mem_of_getElem? (i := 740) (by decide +kernel)
set_option maxRecDepth 100000 in
theorem wm_741 : Cond.fieldLink RX7 150 "IslandGrammarModel" "hash" "J" ∈ wsL_law := List.mem_of_getElem? (i := 741) (by decide +kernel)
set_option maxRecDepth 100000 in
theorem wm_742 : Cond.methodLink RX7 154 yX7_mix ∈ wsL_law := List.mem_of_getElem? (i := 742) (by decide +kernel)
set_option maxRecDepth 100000 in
theorem wm_743 : Cond.instanceMethod yX7_mix ∈ wsL_law := List.mem_of_getElem? (i := 743) (by decide +kernel)
set_option maxRecDepth 100000 in
theorem wm_744 : Cond.selects RX7 yX7_mix yX7_mix ∈ wsL_law := List.mem_of_getElem? (i := 744) (by decide +kernel)
set_option maxRecDepth 100000 in
theorem wm_745 : Cond.code yX7_mix cX7_mix 2 none ∈ wsL_law := List.mem_of_getElem? (i := 745) (by decide +kernel)
set_option maxRecDepth 100000 in
theorem wm_746 : Cond.constantLong RX7 148 (31) ∈ wsL_law := List.mem_of_getElem? (i := 746) (by decide +kernel)
set_option maxRecDepth 100000 in
theorem wm_747 : Cond.methodLink RX7 159 yX7_mixRules ∈ wsL_law := List.mem_of_getElem? (i := 747) (by decide +kernel)
set_option maxRecDepth 100000 in
theorem wm_748 : Cond.instanceMethod yX7_mixRules ∈ wsL_law := List.mem_of_getElem? (i := 748) (by decide +kernel)
set_option maxRecDepth 100000 in
theorem wm_749 : Cond.selects RX7 yX7_mixRules yX7_mixRules ∈ wsL_law := List.mem_of_getElem? (i := 749) (by decide +kernel)
set_option maxRecDepth 100000 in
theorem wm_750 : Cond.code yX7_mixRules cX7_mixRules 3 none ∈ wsL_law := List.mem_of_getElem? (i := 750) (by decide +kernel)
