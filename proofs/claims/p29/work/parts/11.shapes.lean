def gSL : List Sh := [(1, 6, [4, 13, 51, 53, 55, 64, 0, 0]), (1, 5, [5, 7, 9, 11, 0]), (1, 4, [6]), (0, 100, []), (1, 4, [8]), (0, 6, []), (1, 4, [10]), (0, 48, []), (1, 4, [12]), (0, 6, []), (1, 1, [14, 0, 0]), (2, 4, [15, 24, 33, 42]), (1, 5, [16, 18, 20, 22, 0]), (1, 4, [17]), (0, 100, []), (1, 4, [19]), (0, 6, []), (1, 4, [21]), (0, 48, []), (1, 4, [23]), (0, 6, []), (1, 5, [25, 27, 29, 31, 0]), (1, 4, [26]), (0, 100, []), (1, 4, [28]), (0, 6, []), (1, 4, [30]), (0, 48, []), (1, 4, [32]), (0, 6, []), (1, 5, [34, 36, 38, 40, 0]), (1, 4, [35]), (0, 100, []), (1, 4, [37]), (0, 6, []), (1, 4, [39]), (0, 48, []), (1, 4, [41]), (0, 6, []), (1, 5, [43, 45, 47, 49, 0]), (1, 4, [44]), (0, 100, []), (1, 4, [46]), (0, 6, []), (1, 4, [48]), (0, 48, []), (1, 4, [50]), (0, 6, []), (1, 4, [52]), (0, 8, []), (1, 4, [54]), (0, 3, []), (1, 2, [4, 56, 58, 60, 62]), (1, 4, [57]), (0, 101, []), (1, 4, [59]), (0, 101, []), (1, 4, [61]), (0, 101, []), (1, 0, [63]), (0, 5454, []), (1, 3, [4, 55, 65, 67, 69, 71, 73, 75, 77, 79, 81, 0, 0, 0, 0, 0]), (1, 4, [66]), (0, 100, []), (1, 4, [68]), (0, 100, []), (1, 4, [70]), (0, 100, []), (1, 4, [72]), (0, 100, []), (1, 4, [74]), (0, 100, []), (1, 4, [76]), (0, 100, []), (1, 4, [78]), (0, 100, []), (1, 4, [80]), (0, 100, []), (1, 4, [82]), (0, 100, []), (1, 7, [84, 85, 0, 86, 0, 87, 88, 89, 90, 91, 92, 93, 0, 0, 0, 0, 1]), (0, 161, []), (0, 644, []), (0, 8, []), (0, 3, []), (0, 5454, []), (0, 100, []), (0, 100, []), (0, 100, []), (0, 100, []), (0, 100, [])]
theorem sh_0 : gSL[0]? = some (1, 6, [4, 13, 51, 53, 55, 64, 0, 0]) := rfl
theorem sh_1 : gSL[1]? = some (1, 5, [5, 7, 9, 11, 0]) := rfl
theorem sh_2 : gSL[2]? = some (1, 4, [6]) := rfl
theorem sh_3 : gSL[3]? = some (0, 100, []) := rfl
theorem sh_4 : gSL[4]? = some (1, 4, [8]) := rfl
theorem sh_5 : gSL[5]? = some (0, 6, []) := rfl
theorem sh_6 : gSL[6]? = some (1, 4, [10]) := rfl
theorem sh_7 : gSL[7]? = some (0, 48, []) := rfl
theorem sh_8 : gSL[8]? = some (1, 4, [12]) := rfl
theorem sh_9 : gSL[9]? = some (0, 6, []) := rfl
theorem sh_10 : gSL[10]? = some (1, 1, [14, 0, 0]) := rfl
theorem sh_11 : gSL[11]? = some (2, 4, [15, 24, 33, 42]) := rfl
theorem sh_12 : gSL[12]? = some (1, 5, [16, 18, 20, 22, 0]) := rfl
theorem sh_13 : gSL[13]? = some (1, 4, [17]) := rfl
theorem sh_14 : gSL[14]? = some (0, 100, []) := rfl
theorem sh_15 : gSL[15]? = some (1, 4, [19]) := rfl
theorem sh_16 : gSL[16]? = some (0, 6, []) := rfl
theorem sh_17 : gSL[17]? = some (1, 4, [21]) := rfl
theorem sh_18 : gSL[18]? = some (0, 48, []) := rfl
theorem sh_19 : gSL[19]? = some (1, 4, [23]) := rfl
theorem sh_20 : gSL[20]? = some (0, 6, []) := rfl
theorem sh_21 : gSL[21]? = some (1, 5, [25, 27, 29, 31, 0]) := rfl
theorem sh_22 : gSL[22]? = some (1, 4, [26]) := rfl
theorem sh_23 : gSL[23]? = some (0, 100, []) := rfl
theorem sh_24 : gSL[24]? = some (1, 4, [28]) := rfl
theorem sh_25 : gSL[25]? = some (0, 6, []) := rfl
theorem sh_26 : gSL[26]? = some (1, 4, [30]) := rfl
theorem sh_27 : gSL[27]? = some (0, 48, []) := rfl
theorem sh_28 : gSL[28]? = some (1, 4, [32]) := rfl
theorem sh_29 : gSL[29]? = some (0, 6, []) := rfl
theorem sh_30 : gSL[30]? = some (1, 5, [34, 36, 38, 40, 0]) := rfl
theorem sh_31 : gSL[31]? = some (1, 4, [35]) := rfl
theorem sh_32 : gSL[32]? = some (0, 100, []) := rfl
theorem sh_33 : gSL[33]? = some (1, 4, [37]) := rfl
theorem sh_34 : gSL[34]? = some (0, 6, []) := rfl
theorem sh_35 : gSL[35]? = some (1, 4, [39]) := rfl
theorem sh_36 : gSL[36]? = some (0, 48, []) := rfl
theorem sh_37 : gSL[37]? = some (1, 4, [41]) := rfl
theorem sh_38 : gSL[38]? = some (0, 6, []) := rfl
theorem sh_39 : gSL[39]? = some (1, 5, [43, 45, 47, 49, 0]) := rfl
theorem sh_40 : gSL[40]? = some (1, 4, [44]) := rfl
theorem sh_41 : gSL[41]? = some (0, 100, []) := rfl
theorem sh_42 : gSL[42]? = some (1, 4, [46]) := rfl
theorem sh_43 : gSL[43]? = some (0, 6, []) := rfl
theorem sh_44 : gSL[44]? = some (1, 4, [48]) := rfl
theorem sh_45 : gSL[45]? = some (0, 48, []) := rfl
theorem sh_46 : gSL[46]? = some (1, 4, [50]) := rfl
theorem sh_47 : gSL[47]? = some (0, 6, []) := rfl
theorem sh_48 : gSL[48]? = some (1, 4, [52]) := rfl
theorem sh_49 : gSL[49]? = some (0, 8, []) := rfl
theorem sh_50 : gSL[50]? = some (1, 4, [54]) := rfl
theorem sh_51 : gSL[51]? = some (0, 3, []) := rfl
theorem sh_52 : gSL[52]? = some (1, 2, [4, 56, 58, 60, 62]) := rfl
theorem sh_53 : gSL[53]? = some (1, 4, [57]) := rfl
theorem sh_54 : gSL[54]? = some (0, 101, []) := rfl
theorem sh_55 : gSL[55]? = some (1, 4, [59]) := rfl
theorem sh_56 : gSL[56]? = some (0, 101, []) := rfl
theorem sh_57 : gSL[57]? = some (1, 4, [61]) := rfl
theorem sh_58 : gSL[58]? = some (0, 101, []) := rfl
theorem sh_59 : gSL[59]? = some (1, 0, [63]) := rfl
theorem sh_60 : gSL[60]? = some (0, 5454, []) := rfl
theorem sh_61 : gSL[61]? = some (1, 3, [4, 55, 65, 67, 69, 71, 73, 75, 77, 79, 81, 0, 0, 0, 0, 0]) := rfl
theorem sh_62 : gSL[62]? = some (1, 4, [66]) := rfl
theorem sh_63 : gSL[63]? = some (0, 100, []) := rfl
theorem sh_64 : gSL[64]? = some (1, 4, [68]) := rfl
theorem sh_65 : gSL[65]? = some (0, 100, []) := rfl
theorem sh_66 : gSL[66]? = some (1, 4, [70]) := rfl
theorem sh_67 : gSL[67]? = some (0, 100, []) := rfl
theorem sh_68 : gSL[68]? = some (1, 4, [72]) := rfl
theorem sh_69 : gSL[69]? = some (0, 100, []) := rfl
theorem sh_70 : gSL[70]? = some (1, 4, [74]) := rfl
theorem sh_71 : gSL[71]? = some (0, 100, []) := rfl
theorem sh_72 : gSL[72]? = some (1, 4, [76]) := rfl
theorem sh_73 : gSL[73]? = some (0, 100, []) := rfl
theorem sh_74 : gSL[74]? = some (1, 4, [78]) := rfl
theorem sh_75 : gSL[75]? = some (0, 100, []) := rfl
theorem sh_76 : gSL[76]? = some (1, 4, [80]) := rfl
theorem sh_77 : gSL[77]? = some (0, 100, []) := rfl
theorem sh_78 : gSL[78]? = some (1, 4, [82]) := rfl
theorem sh_79 : gSL[79]? = some (0, 100, []) := rfl
theorem sh_80 : gSL[80]? = some (1, 7, [84, 85, 0, 86, 0, 87, 88, 89, 90, 91, 92, 93, 0, 0, 0, 0, 1]) := rfl
theorem sh_81 : gSL[81]? = some (0, 161, []) := rfl
theorem sh_82 : gSL[82]? = some (0, 644, []) := rfl
theorem sh_83 : gSL[83]? = some (0, 8, []) := rfl
theorem sh_84 : gSL[84]? = some (0, 3, []) := rfl
theorem sh_85 : gSL[85]? = some (0, 5454, []) := rfl
theorem sh_86 : gSL[86]? = some (0, 100, []) := rfl
theorem sh_87 : gSL[87]? = some (0, 100, []) := rfl
theorem sh_88 : gSL[88]? = some (0, 100, []) := rfl
theorem sh_89 : gSL[89]? = some (0, 100, []) := rfl
theorem sh_90 : gSL[90]? = some (0, 100, []) := rfl
def isRow (k n : Nat) : Prop := gSL[k]? = some (1, 4, [k + 1 + 3]) ∧ gSL[k + 1]? = some (0, n, [])
def isSt (b : Nat) : Prop := gSL[b]? = some (1, 5, [b + 1 + 3, b + 3 + 3, b + 5 + 3, b + 7 + 3, 0]) ∧ isRow (b + 1) 100 ∧ isRow (b + 3) 6 ∧ isRow (b + 5) 48 ∧ isRow (b + 7) 6
theorem gSL_small : ∀ q ∈ gSL, q.2.1 < 2147483648 := by
  have h : gSL.all (fun q => decide (q.2.1 < 2147483648)) = true := by decide +kernel
  intro q hq
  exact of_decide_eq_true (List.all_eq_true.mp h q hq)
theorem isRow_lt {k n : Nat} (h : isRow k n) : n < 2147483648 := gSL_small _ (List.mem_of_getElem? h.2)
theorem st_1 : isSt 1 := ⟨rfl, ⟨rfl, rfl⟩, ⟨rfl, rfl⟩, ⟨rfl, rfl⟩, ⟨rfl, rfl⟩⟩
theorem st_12 : isSt 12 := ⟨rfl, ⟨rfl, rfl⟩, ⟨rfl, rfl⟩, ⟨rfl, rfl⟩, ⟨rfl, rfl⟩⟩
theorem st_21 : isSt 21 := ⟨rfl, ⟨rfl, rfl⟩, ⟨rfl, rfl⟩, ⟨rfl, rfl⟩, ⟨rfl, rfl⟩⟩
theorem st_30 : isSt 30 := ⟨rfl, ⟨rfl, rfl⟩, ⟨rfl, rfl⟩, ⟨rfl, rfl⟩, ⟨rfl, rfl⟩⟩
theorem st_39 : isSt 39 := ⟨rfl, ⟨rfl, rfl⟩, ⟨rfl, rfl⟩, ⟨rfl, rfl⟩, ⟨rfl, rfl⟩⟩
theorem ring_at {i : Int} (h0 : 0 ≤ i) (h1 : i < 4) : ([15, 24, 33, 42] : List Nat).getD i.toNat 2 = (12 + 9 * i.toNat) + 3 := by
  obtain ⟨j, rfl⟩ := Int.eq_ofNat_of_zero_le h0
  have : j < 4 := by omega
  rcases (show j = 0 ∨ j = 1 ∨ j = 2 ∨ j = 3 by omega) with rfl | rfl | rfl | rfl <;> rfl
