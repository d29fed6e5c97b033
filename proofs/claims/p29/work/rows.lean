section
-- ===== PART A: goes FIRST, ahead of the names: the tables' words, and 'selects' of the private methods out of them =====
/-- a private method of a class that the tables say can be made, by its rows of tables_1 -/
def lw_okq (q : MethodName × Nat) : Prop := (q.1.cls ≠ "java/lang/invoke/MethodHandle" ∧ q.1.cls ≠ "java/lang/invoke/VarHandle") ∧ Cond.instantiable q.1.cls q.2 ∈ tables_1 ∧ Cond.privateMethod q.1 ∈ tables_1 ∧ Cond.instanceMethod q.1 ∈ tables_1
theorem lw_p0 : lw_okq (⟨"IslandGrammar", "fail", "(I)I"⟩, 8) := ⟨⟨by decide +kernel, by decide +kernel⟩, List.mem_of_getElem? (i := 11) (by decide +kernel), List.mem_of_getElem? (i := 204) (by decide +kernel), List.mem_of_getElem? (i := 205) (by decide +kernel)⟩
theorem lw_p1 : lw_okq (⟨"IslandGrammar", "prepareChange", "()V"⟩, 8) := ⟨⟨by decide +kernel, by decide +kernel⟩, List.mem_of_getElem? (i := 11) (by decide +kernel), List.mem_of_getElem? (i := 216) (by decide +kernel), List.mem_of_getElem? (i := 217) (by decide +kernel)⟩
theorem lw_p2 : lw_okq (⟨"IslandGrammar$History", "slotAt", "(I)LIslandGrammar$State;"⟩, 3) := ⟨⟨by decide +kernel, by decide +kernel⟩, List.mem_of_getElem? (i := 56) (by decide +kernel), List.mem_of_getElem? (i := 224) (by decide +kernel), List.mem_of_getElem? (i := 225) (by decide +kernel)⟩
theorem lw_p3 : lw_okq (⟨"IslandGrammar", "isInText", "(I)Z"⟩, 8) := ⟨⟨by decide +kernel, by decide +kernel⟩, List.mem_of_getElem? (i := 11) (by decide +kernel), List.mem_of_getElem? (i := 250) (by decide +kernel), List.mem_of_getElem? (i := 251) (by decide +kernel)⟩
theorem lw_p4 : lw_okq (⟨"IslandGrammar", "refresh", "()V"⟩, 8) := ⟨⟨by decide +kernel, by decide +kernel⟩, List.mem_of_getElem? (i := 11) (by decide +kernel), List.mem_of_getElem? (i := 335) (by decide +kernel), List.mem_of_getElem? (i := 336) (by decide +kernel)⟩
theorem lw_p5 : lw_okq (⟨"IslandGrammar$Matcher", "markRuns", "(I)V"⟩, 5) := ⟨⟨by decide +kernel, by decide +kernel⟩, List.mem_of_getElem? (i := 77) (by decide +kernel), List.mem_of_getElem? (i := 344) (by decide +kernel), List.mem_of_getElem? (i := 345) (by decide +kernel)⟩
theorem lw_p6 : lw_okq (⟨"IslandGrammar$Matcher", "matchIslands", "(I)V"⟩, 5) := ⟨⟨by decide +kernel, by decide +kernel⟩, List.mem_of_getElem? (i := 77) (by decide +kernel), List.mem_of_getElem? (i := 360) (by decide +kernel), List.mem_of_getElem? (i := 361) (by decide +kernel)⟩
theorem lw_p7 : lw_okq (⟨"IslandGrammar$Matcher", "matchRests", "(II)V"⟩, 5) := ⟨⟨by decide +kernel, by decide +kernel⟩, List.mem_of_getElem? (i := 77) (by decide +kernel), List.mem_of_getElem? (i := 379) (by decide +kernel), List.mem_of_getElem? (i := 380) (by decide +kernel)⟩
theorem lw_p8 : lw_okq (⟨"IslandGrammar$Matcher", "waterRestEnd", "(III)I"⟩, 5) := ⟨⟨by decide +kernel, by decide +kernel⟩, List.mem_of_getElem? (i := 77) (by decide +kernel), List.mem_of_getElem? (i := 383) (by decide +kernel), List.mem_of_getElem? (i := 384) (by decide +kernel)⟩
theorem lw_p9 : lw_okq (⟨"IslandGrammar$Nodes", "clear", "()V"⟩, 16) := ⟨⟨by decide +kernel, by decide +kernel⟩, List.mem_of_getElem? (i := 111) (by decide +kernel), List.mem_of_getElem? (i := 392) (by decide +kernel), List.mem_of_getElem? (i := 393) (by decide +kernel)⟩
theorem lw_p10 : lw_okq (⟨"IslandGrammar$Nodes", "takeTopLevel", "(I)I"⟩, 16) := ⟨⟨by decide +kernel, by decide +kernel⟩, List.mem_of_getElem? (i := 111) (by decide +kernel), List.mem_of_getElem? (i := 398) (by decide +kernel), List.mem_of_getElem? (i := 399) (by decide +kernel)⟩
theorem lw_p11 : lw_okq (⟨"IslandGrammar$Nodes", "announce", "(III)V"⟩, 16) := ⟨⟨by decide +kernel, by decide +kernel⟩, List.mem_of_getElem? (i := 111) (by decide +kernel), List.mem_of_getElem? (i := 409) (by decide +kernel), List.mem_of_getElem? (i := 410) (by decide +kernel)⟩
theorem lw_p12 : lw_okq (⟨"IslandGrammar$Nodes", "addNode", "(I)V"⟩, 16) := ⟨⟨by decide +kernel, by decide +kernel⟩, List.mem_of_getElem? (i := 111) (by decide +kernel), List.mem_of_getElem? (i := 419) (by decide +kernel), List.mem_of_getElem? (i := 420) (by decide +kernel)⟩
theorem lw_p13 : lw_okq (⟨"IslandGrammar$Nodes", "walkPattern", "(I)V"⟩, 16) := ⟨⟨by decide +kernel, by decide +kernel⟩, List.mem_of_getElem? (i := 111) (by decide +kernel), List.mem_of_getElem? (i := 423) (by decide +kernel), List.mem_of_getElem? (i := 424) (by decide +kernel)⟩
theorem lw_p14 : lw_okq (⟨"IslandGrammar$Nodes", "walkWater", "(III)I"⟩, 16) := ⟨⟨by decide +kernel, by decide +kernel⟩, List.mem_of_getElem? (i := 111) (by decide +kernel), List.mem_of_getElem? (i := 429) (by decide +kernel), List.mem_of_getElem? (i := 430) (by decide +kernel)⟩
theorem lw_p15 : lw_okq (⟨"IslandGrammarModel", "fail", "(I)I"⟩, 17) := ⟨⟨by decide +kernel, by decide +kernel⟩, List.mem_of_getElem? (i := 599) (by decide +kernel), List.mem_of_getElem? (i := 667) (by decide +kernel), List.mem_of_getElem? (i := 668) (by decide +kernel)⟩
def lw_privs_1 : List (MethodName × Nat) := [(⟨"IslandGrammar", "fail", "(I)I"⟩, 8), (⟨"IslandGrammar", "prepareChange", "()V"⟩, 8), (⟨"IslandGrammar$History", "slotAt", "(I)LIslandGrammar$State;"⟩, 3), (⟨"IslandGrammar", "isInText", "(I)Z"⟩, 8), (⟨"IslandGrammar", "refresh", "()V"⟩, 8), (⟨"IslandGrammar$Matcher", "markRuns", "(I)V"⟩, 5), (⟨"IslandGrammar$Matcher", "matchIslands", "(I)V"⟩, 5), (⟨"IslandGrammar$Matcher", "matchRests", "(II)V"⟩, 5), (⟨"IslandGrammar$Matcher", "waterRestEnd", "(III)I"⟩, 5), (⟨"IslandGrammar$Nodes", "clear", "()V"⟩, 16), (⟨"IslandGrammar$Nodes", "takeTopLevel", "(I)I"⟩, 16), (⟨"IslandGrammar$Nodes", "announce", "(III)V"⟩, 16), (⟨"IslandGrammar$Nodes", "addNode", "(I)V"⟩, 16), (⟨"IslandGrammar$Nodes", "walkPattern", "(I)V"⟩, 16), (⟨"IslandGrammar$Nodes", "walkWater", "(III)I"⟩, 16), (⟨"IslandGrammarModel", "fail", "(I)I"⟩, 17)]
theorem lw_r1 : ∀ q ∈ lw_privs_1, lw_okq q := List.forall_mem_cons.mpr ⟨lw_p0, List.forall_mem_cons.mpr ⟨lw_p1, List.forall_mem_cons.mpr ⟨lw_p2, List.forall_mem_cons.mpr ⟨lw_p3, List.forall_mem_cons.mpr ⟨lw_p4, List.forall_mem_cons.mpr ⟨lw_p5, List.forall_mem_cons.mpr ⟨lw_p6, List.forall_mem_cons.mpr ⟨lw_p7, List.forall_mem_cons.mpr ⟨lw_p8, List.forall_mem_cons.mpr ⟨lw_p9, List.forall_mem_cons.mpr ⟨lw_p10, List.forall_mem_cons.mpr ⟨lw_p11, List.forall_mem_cons.mpr ⟨lw_p12, List.forall_mem_cons.mpr ⟨lw_p13, List.forall_mem_cons.mpr ⟨lw_p14, List.forall_mem_cons.mpr ⟨lw_p15, fun _ h => absurd h List.not_mem_nil⟩⟩⟩⟩⟩⟩⟩⟩⟩⟩⟩⟩⟩⟩⟩⟩
theorem lw_p16 : lw_okq (⟨"IslandGrammarModel", "save", "()V"⟩, 17) := ⟨⟨by decide +kernel, by decide +kernel⟩, List.mem_of_getElem? (i := 599) (by decide +kernel), List.mem_of_getElem? (i := 671) (by decide +kernel), List.mem_of_getElem? (i := 672) (by decide +kernel)⟩
theorem lw_p17 : lw_okq (⟨"IslandGrammarModel", "isPosition", "(I)Z"⟩, 17) := ⟨⟨by decide +kernel, by decide +kernel⟩, List.mem_of_getElem? (i := 599) (by decide +kernel), List.mem_of_getElem? (i := 679) (by decide +kernel), List.mem_of_getElem? (i := 680) (by decide +kernel)⟩
theorem lw_p18 : lw_okq (⟨"IslandGrammarModel", "elementOf", "(II)I"⟩, 17) := ⟨⟨by decide +kernel, by decide +kernel⟩, List.mem_of_getElem? (i := 599) (by decide +kernel), List.mem_of_getElem? (i := 725) (by decide +kernel), List.mem_of_getElem? (i := 726) (by decide +kernel)⟩
theorem lw_p19 : lw_okq (⟨"IslandGrammarModel", "findEnds", "()V"⟩, 17) := ⟨⟨by decide +kernel, by decide +kernel⟩, List.mem_of_getElem? (i := 599) (by decide +kernel), List.mem_of_getElem? (i := 733) (by decide +kernel), List.mem_of_getElem? (i := 734) (by decide +kernel)⟩
theorem lw_p20 : lw_okq (⟨"IslandGrammarModel", "suffixEnd", "(III)I"⟩, 17) := ⟨⟨by decide +kernel, by decide +kernel⟩, List.mem_of_getElem? (i := 599) (by decide +kernel), List.mem_of_getElem? (i := 740) (by decide +kernel), List.mem_of_getElem? (i := 741) (by decide +kernel)⟩
theorem lw_p21 : lw_okq (⟨"IslandGrammarModel", "waterEnd", "(III)I"⟩, 17) := ⟨⟨by decide +kernel, by decide +kernel⟩, List.mem_of_getElem? (i := 599) (by decide +kernel), List.mem_of_getElem? (i := 744) (by decide +kernel), List.mem_of_getElem? (i := 745) (by decide +kernel)⟩
theorem lw_p22 : lw_okq (⟨"IslandGrammarModel", "islandAt", "(I)I"⟩, 17) := ⟨⟨by decide +kernel, by decide +kernel⟩, List.mem_of_getElem? (i := 599) (by decide +kernel), List.mem_of_getElem? (i := 748) (by decide +kernel), List.mem_of_getElem? (i := 749) (by decide +kernel)⟩
theorem lw_p23 : lw_okq (⟨"IslandGrammarModel", "elementEnd", "(II)I"⟩, 17) := ⟨⟨by decide +kernel, by decide +kernel⟩, List.mem_of_getElem? (i := 599) (by decide +kernel), List.mem_of_getElem? (i := 752) (by decide +kernel), List.mem_of_getElem? (i := 753) (by decide +kernel)⟩
theorem lw_p24 : lw_okq (⟨"IslandGrammarModel", "runEnd", "(III)I"⟩, 17) := ⟨⟨by decide +kernel, by decide +kernel⟩, List.mem_of_getElem? (i := 599) (by decide +kernel), List.mem_of_getElem? (i := 756) (by decide +kernel), List.mem_of_getElem? (i := 757) (by decide +kernel)⟩
theorem lw_p25 : lw_okq (⟨"IslandGrammarModel", "isOf", "(III)Z"⟩, 17) := ⟨⟨by decide +kernel, by decide +kernel⟩, List.mem_of_getElem? (i := 599) (by decide +kernel), List.mem_of_getElem? (i := 760) (by decide +kernel), List.mem_of_getElem? (i := 761) (by decide +kernel)⟩
theorem lw_p26 : lw_okq (⟨"IslandGrammarModel", "parse", "()V"⟩, 17) := ⟨⟨by decide +kernel, by decide +kernel⟩, List.mem_of_getElem? (i := 599) (by decide +kernel), List.mem_of_getElem? (i := 768) (by decide +kernel), List.mem_of_getElem? (i := 769) (by decide +kernel)⟩
theorem lw_p27 : lw_okq (⟨"IslandGrammarModel", "addNode", "(III)V"⟩, 17) := ⟨⟨by decide +kernel, by decide +kernel⟩, List.mem_of_getElem? (i := 599) (by decide +kernel), List.mem_of_getElem? (i := 772) (by decide +kernel), List.mem_of_getElem? (i := 773) (by decide +kernel)⟩
theorem lw_p28 : lw_okq (⟨"IslandGrammarModel", "follow", "(I)V"⟩, 17) := ⟨⟨by decide +kernel, by decide +kernel⟩, List.mem_of_getElem? (i := 599) (by decide +kernel), List.mem_of_getElem? (i := 776) (by decide +kernel), List.mem_of_getElem? (i := 777) (by decide +kernel)⟩
theorem lw_p29 : lw_okq (⟨"IslandGrammarModel", "followWater", "(III)I"⟩, 17) := ⟨⟨by decide +kernel, by decide +kernel⟩, List.mem_of_getElem? (i := 599) (by decide +kernel), List.mem_of_getElem? (i := 780) (by decide +kernel), List.mem_of_getElem? (i := 781) (by decide +kernel)⟩
theorem lw_p30 : lw_okq (⟨"IslandGrammarModel", "numberAt", "(I)I"⟩, 17) := ⟨⟨by decide +kernel, by decide +kernel⟩, List.mem_of_getElem? (i := 599) (by decide +kernel), List.mem_of_getElem? (i := 784) (by decide +kernel), List.mem_of_getElem? (i := 785) (by decide +kernel)⟩
theorem lw_p31 : lw_okq (⟨"IslandGrammarModel", "askNode", "(II)I"⟩, 17) := ⟨⟨by decide +kernel, by decide +kernel⟩, List.mem_of_getElem? (i := 599) (by decide +kernel), List.mem_of_getElem? (i := 797) (by decide +kernel), List.mem_of_getElem? (i := 798) (by decide +kernel)⟩
def lw_privs_2 : List (MethodName × Nat) := [(⟨"IslandGrammarModel", "save", "()V"⟩, 17), (⟨"IslandGrammarModel", "isPosition", "(I)Z"⟩, 17), (⟨"IslandGrammarModel", "elementOf", "(II)I"⟩, 17), (⟨"IslandGrammarModel", "findEnds", "()V"⟩, 17), (⟨"IslandGrammarModel", "suffixEnd", "(III)I"⟩, 17), (⟨"IslandGrammarModel", "waterEnd", "(III)I"⟩, 17), (⟨"IslandGrammarModel", "islandAt", "(I)I"⟩, 17), (⟨"IslandGrammarModel", "elementEnd", "(II)I"⟩, 17), (⟨"IslandGrammarModel", "runEnd", "(III)I"⟩, 17), (⟨"IslandGrammarModel", "isOf", "(III)Z"⟩, 17), (⟨"IslandGrammarModel", "parse", "()V"⟩, 17), (⟨"IslandGrammarModel", "addNode", "(III)V"⟩, 17), (⟨"IslandGrammarModel", "follow", "(I)V"⟩, 17), (⟨"IslandGrammarModel", "followWater", "(III)I"⟩, 17), (⟨"IslandGrammarModel", "numberAt", "(I)I"⟩, 17), (⟨"IslandGrammarModel", "askNode", "(II)I"⟩, 17)]
theorem lw_r2 : ∀ q ∈ lw_privs_2, lw_okq q := List.forall_mem_cons.mpr ⟨lw_p16, List.forall_mem_cons.mpr ⟨lw_p17, List.forall_mem_cons.mpr ⟨lw_p18, List.forall_mem_cons.mpr ⟨lw_p19, List.forall_mem_cons.mpr ⟨lw_p20, List.forall_mem_cons.mpr ⟨lw_p21, List.forall_mem_cons.mpr ⟨lw_p22, List.forall_mem_cons.mpr ⟨lw_p23, List.forall_mem_cons.mpr ⟨lw_p24, List.forall_mem_cons.mpr ⟨lw_p25, List.forall_mem_cons.mpr ⟨lw_p26, List.forall_mem_cons.mpr ⟨lw_p27, List.forall_mem_cons.mpr ⟨lw_p28, List.forall_mem_cons.mpr ⟨lw_p29, List.forall_mem_cons.mpr ⟨lw_p30, List.forall_mem_cons.mpr ⟨lw_p31, fun _ h => absurd h List.not_mem_nil⟩⟩⟩⟩⟩⟩⟩⟩⟩⟩⟩⟩⟩⟩⟩⟩
theorem lw_p32 : lw_okq (⟨"IslandGrammarModel", "foundOf", "(I)I"⟩, 17) := ⟨⟨by decide +kernel, by decide +kernel⟩, List.mem_of_getElem? (i := 599) (by decide +kernel), List.mem_of_getElem? (i := 801) (by decide +kernel), List.mem_of_getElem? (i := 802) (by decide +kernel)⟩
theorem lw_p33 : lw_okq (⟨"IslandGrammarModel", "numberOf", "(I)I"⟩, 17) := ⟨⟨by decide +kernel, by decide +kernel⟩, List.mem_of_getElem? (i := 599) (by decide +kernel), List.mem_of_getElem? (i := 805) (by decide +kernel), List.mem_of_getElem? (i := 806) (by decide +kernel)⟩
theorem lw_p34 : lw_okq (⟨"IslandGrammarModel", "endOf", "(I)I"⟩, 17) := ⟨⟨by decide +kernel, by decide +kernel⟩, List.mem_of_getElem? (i := 599) (by decide +kernel), List.mem_of_getElem? (i := 809) (by decide +kernel), List.mem_of_getElem? (i := 810) (by decide +kernel)⟩
theorem lw_p35 : lw_okq (⟨"IslandGrammarModel", "parentOf", "(I)I"⟩, 17) := ⟨⟨by decide +kernel, by decide +kernel⟩, List.mem_of_getElem? (i := 599) (by decide +kernel), List.mem_of_getElem? (i := 813) (by decide +kernel), List.mem_of_getElem? (i := 814) (by decide +kernel)⟩
theorem lw_p36 : lw_okq (⟨"IslandGrammarModel", "depthOf", "(I)I"⟩, 17) := ⟨⟨by decide +kernel, by decide +kernel⟩, List.mem_of_getElem? (i := 599) (by decide +kernel), List.mem_of_getElem? (i := 817) (by decide +kernel), List.mem_of_getElem? (i := 818) (by decide +kernel)⟩
theorem lw_p37 : lw_okq (⟨"IslandGrammarModel", "mix", "(I)V"⟩, 17) := ⟨⟨by decide +kernel, by decide +kernel⟩, List.mem_of_getElem? (i := 599) (by decide +kernel), List.mem_of_getElem? (i := 874) (by decide +kernel), List.mem_of_getElem? (i := 875) (by decide +kernel)⟩
theorem lw_p38 : lw_okq (⟨"IslandGrammarModel", "mixRules", "()V"⟩, 17) := ⟨⟨by decide +kernel, by decide +kernel⟩, List.mem_of_getElem? (i := 599) (by decide +kernel), List.mem_of_getElem? (i := 879) (by decide +kernel), List.mem_of_getElem? (i := 880) (by decide +kernel)⟩
def lw_privs_3 : List (MethodName × Nat) := [(⟨"IslandGrammarModel", "foundOf", "(I)I"⟩, 17), (⟨"IslandGrammarModel", "numberOf", "(I)I"⟩, 17), (⟨"IslandGrammarModel", "endOf", "(I)I"⟩, 17), (⟨"IslandGrammarModel", "parentOf", "(I)I"⟩, 17), (⟨"IslandGrammarModel", "depthOf", "(I)I"⟩, 17), (⟨"IslandGrammarModel", "mix", "(I)V"⟩, 17), (⟨"IslandGrammarModel", "mixRules", "()V"⟩, 17)]
theorem lw_r3 : ∀ q ∈ lw_privs_3, lw_okq q := List.forall_mem_cons.mpr ⟨lw_p32, List.forall_mem_cons.mpr ⟨lw_p33, List.forall_mem_cons.mpr ⟨lw_p34, List.forall_mem_cons.mpr ⟨lw_p35, List.forall_mem_cons.mpr ⟨lw_p36, List.forall_mem_cons.mpr ⟨lw_p37, List.forall_mem_cons.mpr ⟨lw_p38, fun _ h => absurd h List.not_mem_nil⟩⟩⟩⟩⟩⟩⟩
def lw_privs : List (MethodName × Nat) := lw_privs_1 ++ (lw_privs_2 ++ (lw_privs_3))
def lw_tbl : List Cond := k2_sels lw_privs ++ tables_1
theorem lw_privs_ok : ∀ q ∈ lw_privs, lw_okq q := by
  show ∀ q ∈ lw_privs_1 ++ (lw_privs_2 ++ (lw_privs_3)), lw_okq q
  exact List.forall_mem_append.mpr ⟨lw_r1, List.forall_mem_append.mpr ⟨lw_r2, lw_r3⟩⟩
end
section
/-! ===== BEGIN words of one list among another's, by their places ===== -/
theorem goodIn_r {big : List Cond} (ws : List Cond) (ps : List Nat) (hp : ws = ps.filterMap (fun i => big[i]?)) (h : ws.all goodWord = true) : GoodIn big ws := by
  intro w hw
  have h1 := List.all_eq_true.mp h w hw
  rw [hp] at hw
  obtain ⟨i, -, hi⟩ := List.mem_filterMap.mp hw
  have hm : w ∈ big := by first | exact List.mem_of_getElem? hi | exact List.getElem?_mem hi
  exact ⟨hm, good_of_word h1⟩
theorem goodIn_app {big a b : List Cond} (ha : GoodIn big a) (hb : GoodIn big b) : GoodIn big (a ++ b) := fun w h => (List.mem_append.mp h).elim (ha w) (hb w)
theorem goodIn_ca {big a b : List Cond} {c : Cond} (ha : GoodIn big (c :: a)) (hb : GoodIn big b) : GoodIn big (c :: (a ++ b)) := fun w h => (List.mem_cons.mp h).elim (fun e => ha w (List.mem_cons.mpr (Or.inl e))) (fun h => (List.mem_append.mp h).elim (fun h => ha w (List.mem_cons.mpr (Or.inr h))) (hb w))
theorem goodIn_sub {big ws : List Cond} (hm : ∀ w ∈ ws, w ∈ big) (h : ws.all goodWord = true) : GoodIn big ws := fun w hw => ⟨hm w hw, good_of_word (List.all_eq_true.mp h w hw)⟩
/-! ===== END ===== -/

/-! ===== BEGIN printed: names, fields, word lists, decode rows ===== -/
def RX0 : String := "IslandGrammar$EndTable"
def TX0 : u_T := fun k => match k with
  | _ => ("IslandGrammar$EndTable", "cells", "[I", true)
def tyX0 : Nat → FieldType := fun k => match k with
  | _ => .array .int
abbrev wsX00 : List Cond := u_ws RX0 TX0 1
theorem nmX0 : ∀ a, a < 1 → ∀ b, b < 1 → a ≠ b → (TX0 a).2.1 ≠ (TX0 b).2.1 := by decide +kernel
theorem tyX0_ok : ∀ k, k < 1 → parseFieldDescriptor (TX0 k).2.2.1 = some (tyX0 k) := by decide +kernel
abbrev cX0_init : ByteArray := prog_2_method_1_code
def yX0_init : MethodName := ⟨RX0, "<init>", "()V"⟩
abbrev cX0_get : ByteArray := prog_2_method_2_code
def yX0_get : MethodName := ⟨RX0, "get", "(III)I"⟩
abbrev cX0_set : ByteArray := prog_2_method_3_code
def yX0_set : MethodName := ⟨RX0, "set", "(IIII)V"⟩
def RX1 : String := "IslandGrammar$History"
def TX1 : u_T := fun k => match k with
  | 0 => ("IslandGrammar$History", "ring", "[LIslandGrammar$State;", true)
  | 1 => ("IslandGrammar$History", "next", "I", false)
  | _ => ("IslandGrammar$History", "count", "I", false)
def tyX1 : Nat → FieldType := fun k => match k with
  | 0 => .array (.object "IslandGrammar$State")
  | 1 => .int
  | _ => .int
abbrev wsX10 : List Cond := u_ws RX1 TX1 3
theorem nmX1 : ∀ a, a < 3 → ∀ b, b < 3 → a ≠ b → (TX1 a).2.1 ≠ (TX1 b).2.1 := by decide +kernel
theorem tyX1_ok : ∀ k, k < 3 → parseFieldDescriptor (TX1 k).2.2.1 = some (tyX1 k) := by decide +kernel
abbrev cX1_init : ByteArray := prog_3_method_1_code
def yX1_init : MethodName := ⟨RX1, "<init>", "()V"⟩
abbrev cX1_savedCount : ByteArray := prog_3_method_2_code
def yX1_savedCount : MethodName := ⟨RX1, "savedCount", "()I"⟩
abbrev cX1_save : ByteArray := prog_3_method_3_code
def yX1_save : MethodName := ⟨RX1, "save", "(LIslandGrammar$State;)V"⟩
abbrev cX1_restore : ByteArray := prog_3_method_4_code
def yX1_restore : MethodName := ⟨RX1, "restore", "(LIslandGrammar$State;)V"⟩
abbrev cX1_slotAt : ByteArray := prog_3_method_5_code
def yX1_slotAt : MethodName := ⟨RX1, "slotAt", "(I)LIslandGrammar$State;"⟩
def RX2 : String := "IslandGrammar$Matcher"
def TX2 : u_T := fun k => match k with
  | 0 => ("IslandGrammar$Matcher", "state", "LIslandGrammar$State;", true)
  | 1 => ("IslandGrammar$Matcher", "digitEnds", "LIslandGrammar$Row;", true)
  | 2 => ("IslandGrammar$Matcher", "letterEnds", "LIslandGrammar$Row;", true)
  | 3 => ("IslandGrammar$Matcher", "firstRules", "LIslandGrammar$Row;", true)
  | _ => ("IslandGrammar$Matcher", "restEnds", "LIslandGrammar$EndTable;", true)
def tyX2 : Nat → FieldType := fun k => match k with
  | 0 => .object "IslandGrammar$State"
  | 1 => .object "IslandGrammar$Row"
  | 2 => .object "IslandGrammar$Row"
  | 3 => .object "IslandGrammar$Row"
  | _ => .object "IslandGrammar$EndTable"
abbrev wsX20 : List Cond := u_ws RX2 TX2 5
theorem nmX2 : ∀ a, a < 5 → ∀ b, b < 5 → a ≠ b → (TX2 a).2.1 ≠ (TX2 b).2.1 := by decide +kernel
theorem tyX2_ok : ∀ k, k < 5 → parseFieldDescriptor (TX2 k).2.2.1 = some (tyX2 k) := by decide +kernel
abbrev cX2_init : ByteArray := prog_4_method_1_code
def yX2_init : MethodName := ⟨RX2, "<init>", "(LIslandGrammar$State;)V"⟩
abbrev cX2_update : ByteArray := prog_4_method_2_code
def yX2_update : MethodName := ⟨RX2, "update", "()V"⟩
abbrev cX2_islandEnd : ByteArray := prog_4_method_3_code
def yX2_islandEnd : MethodName := ⟨RX2, "islandEnd", "(II)I"⟩
abbrev cX2_firstRule : ByteArray := prog_4_method_4_code
def yX2_firstRule : MethodName := ⟨RX2, "firstRule", "(I)I"⟩
abbrev cX2_restMatches : ByteArray := prog_4_method_5_code
def yX2_restMatches : MethodName := ⟨RX2, "restMatches", "(III)Z"⟩
abbrev cX2_elementEnd : ByteArray := prog_4_method_6_code
def yX2_elementEnd : MethodName := ⟨RX2, "elementEnd", "(II)I"⟩
abbrev cX2_markRuns : ByteArray := prog_4_method_7_code
def yX2_markRuns : MethodName := ⟨RX2, "markRuns", "(I)V"⟩
abbrev cX2_runEnd : ByteArray := prog_4_method_8_code
def yX2_runEnd : MethodName := ⟨RX2, "runEnd", "(LIslandGrammar$Row;I)I"⟩
abbrev cX2_matchIslands : ByteArray := prog_4_method_9_code
def yX2_matchIslands : MethodName := ⟨RX2, "matchIslands", "(I)V"⟩
abbrev cX2_matchRests : ByteArray := prog_4_method_10_code
def yX2_matchRests : MethodName := ⟨RX2, "matchRests", "(II)V"⟩
abbrev cX2_waterRestEnd : ByteArray := prog_4_method_11_code
def yX2_waterRestEnd : MethodName := ⟨RX2, "waterRestEnd", "(III)I"⟩
def RX3 : String := "IslandGrammar$Nodes"
def TX3 : u_T := fun k => match k with
  | 0 => ("IslandGrammar$Nodes", "state", "LIslandGrammar$State;", true)
  | 1 => ("IslandGrammar$Nodes", "matcher", "LIslandGrammar$Matcher;", true)
  | 2 => ("IslandGrammar$Nodes", "rules", "LIslandGrammar$Row;", true)
  | 3 => ("IslandGrammar$Nodes", "starts", "LIslandGrammar$Row;", true)
  | 4 => ("IslandGrammar$Nodes", "ends", "LIslandGrammar$Row;", true)
  | 5 => ("IslandGrammar$Nodes", "parents", "LIslandGrammar$Row;", true)
  | 6 => ("IslandGrammar$Nodes", "depths", "LIslandGrammar$Row;", true)
  | 7 => ("IslandGrammar$Nodes", "waters", "LIslandGrammar$Row;", true)
  | 8 => ("IslandGrammar$Nodes", "numbers", "LIslandGrammar$Row;", true)
  | 9 => ("IslandGrammar$Nodes", "dueRules", "LIslandGrammar$Row;", true)
  | 10 => ("IslandGrammar$Nodes", "dueParents", "LIslandGrammar$Row;", true)
  | 11 => ("IslandGrammar$Nodes", "count", "I", false)
  | 12 => ("IslandGrammar$Nodes", "topIslands", "I", false)
  | 13 => ("IslandGrammar$Nodes", "topWater", "I", false)
  | 14 => ("IslandGrammar$Nodes", "waterRun", "I", false)
  | _ => ("IslandGrammar$Nodes", "longestRun", "I", false)
def tyX3 : Nat → FieldType := fun k => match k with
  | 0 => .object "IslandGrammar$State"
  | 1 => .object "IslandGrammar$Matcher"
  | 2 => .object "IslandGrammar$Row"
  | 3 => .object "IslandGrammar$Row"
  | 4 => .object "IslandGrammar$Row"
  | 5 => .object "IslandGrammar$Row"
  | 6 => .object "IslandGrammar$Row"
  | 7 => .object "IslandGrammar$Row"
  | 8 => .object "IslandGrammar$Row"
  | 9 => .object "IslandGrammar$Row"
  | 10 => .object "IslandGrammar$Row"
  | 11 => .int
  | 12 => .int
  | 13 => .int
  | 14 => .int
  | _ => .int
abbrev wsX30 : List Cond := u_ws RX3 TX3 16
theorem nmX3 : ∀ a, a < 16 → ∀ b, b < 16 → a ≠ b → (TX3 a).2.1 ≠ (TX3 b).2.1 := by decide +kernel
theorem tyX3_ok : ∀ k, k < 16 → parseFieldDescriptor (TX3 k).2.2.1 = some (tyX3 k) := by decide +kernel
abbrev cX3_init : ByteArray := prog_5_method_1_code
def yX3_init : MethodName := ⟨RX3, "<init>", "(LIslandGrammar$State;LIslandGrammar$Matcher;)V"⟩
abbrev cX3_update : ByteArray := prog_5_method_2_code
def yX3_update : MethodName := ⟨RX3, "update", "()V"⟩
abbrev cX3_total : ByteArray := prog_5_method_3_code
def yX3_total : MethodName := ⟨RX3, "total", "()I"⟩
abbrev cX3_has : ByteArray := prog_5_method_4_code
def yX3_has : MethodName := ⟨RX3, "has", "(I)Z"⟩
abbrev cX3_topLevelTotal : ByteArray := prog_5_method_5_code
def yX3_topLevelTotal : MethodName := ⟨RX3, "topLevelTotal", "()I"⟩
abbrev cX3_topWater : ByteArray := prog_5_method_6_code
def yX3_topWater : MethodName := ⟨RX3, "topWater", "()I"⟩
abbrev cX3_longestTopWater : ByteArray := prog_5_method_7_code
def yX3_longestTopWater : MethodName := ⟨RX3, "longestTopWater", "()I"⟩
abbrev cX3_ruleOf : ByteArray := prog_5_method_8_code
def yX3_ruleOf : MethodName := ⟨RX3, "ruleOf", "(I)I"⟩
abbrev cX3_startOf : ByteArray := prog_5_method_9_code
def yX3_startOf : MethodName := ⟨RX3, "startOf", "(I)I"⟩
abbrev cX3_endOf : ByteArray := prog_5_method_10_code
def yX3_endOf : MethodName := ⟨RX3, "endOf", "(I)I"⟩
abbrev cX3_parentOf : ByteArray := prog_5_method_11_code
def yX3_parentOf : MethodName := ⟨RX3, "parentOf", "(I)I"⟩
abbrev cX3_depthOf : ByteArray := prog_5_method_12_code
def yX3_depthOf : MethodName := ⟨RX3, "depthOf", "(I)I"⟩
abbrev cX3_waterOf : ByteArray := prog_5_method_13_code
def yX3_waterOf : MethodName := ⟨RX3, "waterOf", "(I)I"⟩
abbrev cX3_numberOf : ByteArray := prog_5_method_14_code
def yX3_numberOf : MethodName := ⟨RX3, "numberOf", "(I)I"⟩
abbrev cX3_totalOf : ByteArray := prog_5_method_15_code
def yX3_totalOf : MethodName := ⟨RX3, "totalOf", "(I)I"⟩
abbrev cX3_innermostAt : ByteArray := prog_5_method_16_code
def yX3_innermostAt : MethodName := ⟨RX3, "innermostAt", "(I)I"⟩
abbrev cX3_mixInto : ByteArray := prog_5_method_17_code
def yX3_mixInto : MethodName := ⟨RX3, "mixInto", "(J)J"⟩
abbrev cX3_clear : ByteArray := prog_5_method_18_code
def yX3_clear : MethodName := ⟨RX3, "clear", "()V"⟩
abbrev cX3_takeTopLevel : ByteArray := prog_5_method_19_code
def yX3_takeTopLevel : MethodName := ⟨RX3, "takeTopLevel", "(I)I"⟩
abbrev cX3_announce : ByteArray := prog_5_method_20_code
def yX3_announce : MethodName := ⟨RX3, "announce", "(III)V"⟩
abbrev cX3_addNode : ByteArray := prog_5_method_21_code
def yX3_addNode : MethodName := ⟨RX3, "addNode", "(I)V"⟩
abbrev cX3_walkPattern : ByteArray := prog_5_method_22_code
def yX3_walkPattern : MethodName := ⟨RX3, "walkPattern", "(I)V"⟩
abbrev cX3_walkWater : ByteArray := prog_5_method_23_code
def yX3_walkWater : MethodName := ⟨RX3, "walkWater", "(III)I"⟩
def RX4 : String := "IslandGrammar$Row"
def TX4 : u_T := fun k => match k with
  | _ => ("IslandGrammar$Row", "cells", "[I", true)
def tyX4 : Nat → FieldType := fun k => match k with
  | _ => .array .int
abbrev wsX40 : List Cond := u_ws RX4 TX4 1
theorem nmX4 : ∀ a, a < 1 → ∀ b, b < 1 → a ≠ b → (TX4 a).2.1 ≠ (TX4 b).2.1 := by decide +kernel
theorem tyX4_ok : ∀ k, k < 1 → parseFieldDescriptor (TX4 k).2.2.1 = some (tyX4 k) := by decide +kernel
abbrev cX4_init : ByteArray := prog_6_method_1_code
def yX4_init : MethodName := ⟨RX4, "<init>", "(I)V"⟩
abbrev cX4_get : ByteArray := prog_6_method_2_code
def yX4_get : MethodName := ⟨RX4, "get", "(I)I"⟩
abbrev cX4_set : ByteArray := prog_6_method_3_code
def yX4_set : MethodName := ⟨RX4, "set", "(II)V"⟩
abbrev cX4_fill : ByteArray := prog_6_method_4_code
def yX4_fill : MethodName := ⟨RX4, "fill", "(I)V"⟩
abbrev cX4_copyFrom : ByteArray := prog_6_method_5_code
def yX4_copyFrom : MethodName := ⟨RX4, "copyFrom", "(LIslandGrammar$Row;)V"⟩
abbrev cX4_mixInto : ByteArray := prog_6_method_6_code
def yX4_mixInto : MethodName := ⟨RX4, "mixInto", "(JII)J"⟩
def RX5 : String := "IslandGrammar$State"
def TX5 : u_T := fun k => match k with
  | 0 => ("IslandGrammar$State", "text", "LIslandGrammar$Row;", true)
  | 1 => ("IslandGrammar$State", "patternSizes", "LIslandGrammar$Row;", true)
  | 2 => ("IslandGrammar$State", "patterns", "LIslandGrammar$Row;", true)
  | 3 => ("IslandGrammar$State", "stops", "LIslandGrammar$Row;", true)
  | _ => ("IslandGrammar$State", "textSize", "I", false)
def tyX5 : Nat → FieldType := fun k => match k with
  | 0 => .object "IslandGrammar$Row"
  | 1 => .object "IslandGrammar$Row"
  | 2 => .object "IslandGrammar$Row"
  | 3 => .object "IslandGrammar$Row"
  | _ => .int
abbrev wsX50 : List Cond := u_ws RX5 TX5 5
theorem nmX5 : ∀ a, a < 5 → ∀ b, b < 5 → a ≠ b → (TX5 a).2.1 ≠ (TX5 b).2.1 := by decide +kernel
theorem tyX5_ok : ∀ k, k < 5 → parseFieldDescriptor (TX5 k).2.2.1 = some (tyX5 k) := by decide +kernel
abbrev cX5_init : ByteArray := prog_7_method_1_code
def yX5_init : MethodName := ⟨RX5, "<init>", "()V"⟩
abbrev cX5_textSize : ByteArray := prog_7_method_2_code
def yX5_textSize : MethodName := ⟨RX5, "textSize", "()I"⟩
abbrev cX5_textAt : ByteArray := prog_7_method_3_code
def yX5_textAt : MethodName := ⟨RX5, "textAt", "(I)I"⟩
abbrev cX5_insertByte : ByteArray := prog_7_method_4_code
def yX5_insertByte : MethodName := ⟨RX5, "insertByte", "(II)V"⟩
abbrev cX5_setByte : ByteArray := prog_7_method_5_code
def yX5_setByte : MethodName := ⟨RX5, "setByte", "(II)V"⟩
abbrev cX5_removeBytes : ByteArray := prog_7_method_6_code
def yX5_removeBytes : MethodName := ⟨RX5, "removeBytes", "(II)V"⟩
abbrev cX5_numberBetween : ByteArray := prog_7_method_7_code
def yX5_numberBetween : MethodName := ⟨RX5, "numberBetween", "(II)I"⟩
abbrev cX5_patternSize : ByteArray := prog_7_method_8_code
def yX5_patternSize : MethodName := ⟨RX5, "patternSize", "(I)I"⟩
abbrev cX5_patternAt : ByteArray := prog_7_method_9_code
def yX5_patternAt : MethodName := ⟨RX5, "patternAt", "(II)I"⟩
abbrev cX5_setPattern : ByteArray := prog_7_method_10_code
def yX5_setPattern : MethodName := ⟨RX5, "setPattern", "(ILIslandGrammar$Row;I)V"⟩
abbrev cX5_stopOf : ByteArray := prog_7_method_11_code
def yX5_stopOf : MethodName := ⟨RX5, "stopOf", "(I)I"⟩
abbrev cX5_putStop : ByteArray := prog_7_method_12_code
def yX5_putStop : MethodName := ⟨RX5, "putStop", "(II)V"⟩
abbrev cX5_copyFrom : ByteArray := prog_7_method_13_code
def yX5_copyFrom : MethodName := ⟨RX5, "copyFrom", "(LIslandGrammar$State;)V"⟩
abbrev cX5_mixInto : ByteArray := prog_7_method_14_code
def yX5_mixInto : MethodName := ⟨RX5, "mixInto", "(J)J"⟩
def RX6 : String := "IslandGrammar"
def TX6 : u_T := fun k => match k with
  | 0 => ("IslandGrammar", "state", "LIslandGrammar$State;", true)
  | 1 => ("IslandGrammar", "history", "LIslandGrammar$History;", true)
  | 2 => ("IslandGrammar", "buffer", "LIslandGrammar$Row;", true)
  | 3 => ("IslandGrammar", "errors", "LIslandGrammar$Row;", true)
  | 4 => ("IslandGrammar", "matcher", "LIslandGrammar$Matcher;", true)
  | 5 => ("IslandGrammar", "nodes", "LIslandGrammar$Nodes;", true)
  | 6 => ("IslandGrammar", "bufferSize", "I", false)
  | _ => ("IslandGrammar", "stale", "Z", false)
def tyX6 : Nat → FieldType := fun k => match k with
  | 0 => .object "IslandGrammar$State"
  | 1 => .object "IslandGrammar$History"
  | 2 => .object "IslandGrammar$Row"
  | 3 => .object "IslandGrammar$Row"
  | 4 => .object "IslandGrammar$Matcher"
  | 5 => .object "IslandGrammar$Nodes"
  | 6 => .int
  | _ => .boolean
abbrev wsX60 : List Cond := u_ws RX6 TX6 8
theorem nmX6 : ∀ a, a < 8 → ∀ b, b < 8 → a ≠ b → (TX6 a).2.1 ≠ (TX6 b).2.1 := by decide +kernel
theorem tyX6_ok : ∀ k, k < 8 → parseFieldDescriptor (TX6 k).2.2.1 = some (tyX6 k) := by decide +kernel
abbrev cX6_init : ByteArray := prog_1_method_1_code
def yX6_init : MethodName := ⟨RX6, "<init>", "()V"⟩
abbrev cX6_insert : ByteArray := prog_1_method_2_code
def yX6_insert : MethodName := ⟨RX6, "insert", "(II)I"⟩
abbrev cX6_replace : ByteArray := prog_1_method_3_code
def yX6_replace : MethodName := ⟨RX6, "replace", "(II)I"⟩
abbrev cX6_delete : ByteArray := prog_1_method_4_code
def yX6_delete : MethodName := ⟨RX6, "delete", "(II)I"⟩
abbrev cX6_length : ByteArray := prog_1_method_5_code
def yX6_length : MethodName := ⟨RX6, "length", "()I"⟩
abbrev cX6_byteAt : ByteArray := prog_1_method_6_code
def yX6_byteAt : MethodName := ⟨RX6, "byteAt", "(I)I"⟩
abbrev cX6_append : ByteArray := prog_1_method_7_code
def yX6_append : MethodName := ⟨RX6, "append", "(I)I"⟩
abbrev cX6_clearPattern : ByteArray := prog_1_method_8_code
def yX6_clearPattern : MethodName := ⟨RX6, "clearPattern", "()I"⟩
abbrev cX6_define : ByteArray := prog_1_method_9_code
def yX6_define : MethodName := ⟨RX6, "define", "(I)I"⟩
abbrev cX6_undefine : ByteArray := prog_1_method_10_code
def yX6_undefine : MethodName := ⟨RX6, "undefine", "(I)I"⟩
abbrev cX6_setStop : ByteArray := prog_1_method_11_code
def yX6_setStop : MethodName := ⟨RX6, "setStop", "(II)I"⟩
abbrev cX6_element : ByteArray := prog_1_method_12_code
def yX6_element : MethodName := ⟨RX6, "element", "(II)I"⟩
abbrev cX6_matchEnd : ByteArray := prog_1_method_13_code
def yX6_matchEnd : MethodName := ⟨RX6, "matchEnd", "(II)I"⟩
abbrev cX6_nodeCount : ByteArray := prog_1_method_14_code
def yX6_nodeCount : MethodName := ⟨RX6, "nodeCount", "()I"⟩
abbrev cX6_islandCount : ByteArray := prog_1_method_15_code
def yX6_islandCount : MethodName := ⟨RX6, "islandCount", "()I"⟩
abbrev cX6_nodeRule : ByteArray := prog_1_method_16_code
def yX6_nodeRule : MethodName := ⟨RX6, "nodeRule", "(I)I"⟩
abbrev cX6_nodeStart : ByteArray := prog_1_method_17_code
def yX6_nodeStart : MethodName := ⟨RX6, "nodeStart", "(I)I"⟩
abbrev cX6_nodeEnd : ByteArray := prog_1_method_18_code
def yX6_nodeEnd : MethodName := ⟨RX6, "nodeEnd", "(I)I"⟩
abbrev cX6_nodeParent : ByteArray := prog_1_method_19_code
def yX6_nodeParent : MethodName := ⟨RX6, "nodeParent", "(I)I"⟩
abbrev cX6_nodeDepth : ByteArray := prog_1_method_20_code
def yX6_nodeDepth : MethodName := ⟨RX6, "nodeDepth", "(I)I"⟩
abbrev cX6_nodeWater : ByteArray := prog_1_method_21_code
def yX6_nodeWater : MethodName := ⟨RX6, "nodeWater", "(I)I"⟩
abbrev cX6_nodeNumber : ByteArray := prog_1_method_22_code
def yX6_nodeNumber : MethodName := ⟨RX6, "nodeNumber", "(I)I"⟩
abbrev cX6_nodeAt : ByteArray := prog_1_method_23_code
def yX6_nodeAt : MethodName := ⟨RX6, "nodeAt", "(I)I"⟩
abbrev cX6_waterLength : ByteArray := prog_1_method_24_code
def yX6_waterLength : MethodName := ⟨RX6, "waterLength", "()I"⟩
abbrev cX6_longestWater : ByteArray := prog_1_method_25_code
def yX6_longestWater : MethodName := ⟨RX6, "longestWater", "()I"⟩
abbrev cX6_countOf : ByteArray := prog_1_method_26_code
def yX6_countOf : MethodName := ⟨RX6, "countOf", "(I)I"⟩
abbrev cX6_undo : ByteArray := prog_1_method_27_code
def yX6_undo : MethodName := ⟨RX6, "undo", "()I"⟩
abbrev cX6_errorCount : ByteArray := prog_1_method_28_code
def yX6_errorCount : MethodName := ⟨RX6, "errorCount", "(I)I"⟩
abbrev cX6_digest : ByteArray := prog_1_method_29_code
def yX6_digest : MethodName := ⟨RX6, "digest", "()J"⟩
abbrev cX6_isByte : ByteArray := prog_1_method_30_code
def yX6_isByte : MethodName := ⟨RX6, "isByte", "(I)Z"⟩
abbrev cX6_isRule : ByteArray := prog_1_method_31_code
def yX6_isRule : MethodName := ⟨RX6, "isRule", "(I)Z"⟩
abbrev cX6_isReference : ByteArray := prog_1_method_32_code
def yX6_isReference : MethodName := ⟨RX6, "isReference", "(I)Z"⟩
abbrev cX6_canStartPattern : ByteArray := prog_1_method_33_code
def yX6_canStartPattern : MethodName := ⟨RX6, "canStartPattern", "(I)Z"⟩
abbrev cX6_isDigit : ByteArray := prog_1_method_34_code
def yX6_isDigit : MethodName := ⟨RX6, "isDigit", "(I)Z"⟩
abbrev cX6_isLetter : ByteArray := prog_1_method_35_code
def yX6_isLetter : MethodName := ⟨RX6, "isLetter", "(I)Z"⟩
abbrev cX6_mix : ByteArray := prog_1_method_36_code
def yX6_mix : MethodName := ⟨RX6, "mix", "(JJ)J"⟩
abbrev cX6_isInText : ByteArray := prog_1_method_37_code
def yX6_isInText : MethodName := ⟨RX6, "isInText", "(I)Z"⟩
abbrev cX6_fail : ByteArray := prog_1_method_38_code
def yX6_fail : MethodName := ⟨RX6, "fail", "(I)I"⟩
abbrev cX6_prepareChange : ByteArray := prog_1_method_39_code
def yX6_prepareChange : MethodName := ⟨RX6, "prepareChange", "()V"⟩
abbrev cX6_refresh : ByteArray := prog_1_method_40_code
def yX6_refresh : MethodName := ⟨RX6, "refresh", "()V"⟩
def RX7 : String := "IslandGrammarModel"
def TX7 : u_T := fun k => match k with
  | 0 => ("IslandGrammarModel", "now", "[I", true)
  | 1 => ("IslandGrammarModel", "history", "[I", true)
  | 2 => ("IslandGrammarModel", "depth", "I", false)
  | 3 => ("IslandGrammarModel", "pattern", "[I", true)
  | 4 => ("IslandGrammarModel", "patternLength", "I", false)
  | 5 => ("IslandGrammarModel", "errors", "[I", true)
  | 6 => ("IslandGrammarModel", "ends", "[I", true)
  | 7 => ("IslandGrammarModel", "foundRule", "[I", true)
  | 8 => ("IslandGrammarModel", "foundStart", "[I", true)
  | 9 => ("IslandGrammarModel", "foundParent", "[I", true)
  | 10 => ("IslandGrammarModel", "foundWater", "[I", true)
  | 11 => ("IslandGrammarModel", "foundNumber", "[I", true)
  | 12 => ("IslandGrammarModel", "nodes", "I", false)
  | 13 => ("IslandGrammarModel", "islands", "I", false)
  | 14 => ("IslandGrammarModel", "water", "I", false)
  | 15 => ("IslandGrammarModel", "longest", "I", false)
  | _ => ("IslandGrammarModel", "hash", "J", false)
def tyX7 : Nat → FieldType := fun k => match k with
  | 0 => .array .int
  | 1 => .array .int
  | 2 => .int
  | 3 => .array .int
  | 4 => .int
  | 5 => .array .int
  | 6 => .array .int
  | 7 => .array .int
  | 8 => .array .int
  | 9 => .array .int
  | 10 => .array .int
  | 11 => .array .int
  | 12 => .int
  | 13 => .int
  | 14 => .int
  | 15 => .int
  | _ => .long
abbrev wsX70 : List Cond := u_ws RX7 TX7 17
theorem nmX7 : ∀ a, a < 17 → ∀ b, b < 17 → a ≠ b → (TX7 a).2.1 ≠ (TX7 b).2.1 := by decide +kernel
theorem tyX7_ok : ∀ k, k < 17 → parseFieldDescriptor (TX7 k).2.2.1 = some (tyX7 k) := by decide +kernel
abbrev cX7_init : ByteArray := prog_9_method_1_code
def yX7_init : MethodName := ⟨RX7, "<init>", "()V"⟩
abbrev cX7_in : ByteArray := prog_9_method_2_code
def yX7_in : MethodName := ⟨RX7, "in", "(III)Z"⟩
abbrev cX7_fail : ByteArray := prog_9_method_3_code
def yX7_fail : MethodName := ⟨RX7, "fail", "(I)I"⟩
abbrev cX7_save : ByteArray := prog_9_method_4_code
def yX7_save : MethodName := ⟨RX7, "save", "()V"⟩
abbrev cX7_isByte : ByteArray := prog_9_method_5_code
def yX7_isByte : MethodName := ⟨RX7, "isByte", "(I)Z"⟩
abbrev cX7_isPosition : ByteArray := prog_9_method_6_code
def yX7_isPosition : MethodName := ⟨RX7, "isPosition", "(I)Z"⟩
abbrev cX7_insert : ByteArray := prog_9_method_7_code
def yX7_insert : MethodName := ⟨RX7, "insert", "(II)I"⟩
abbrev cX7_replace : ByteArray := prog_9_method_8_code
def yX7_replace : MethodName := ⟨RX7, "replace", "(II)I"⟩
abbrev cX7_delete : ByteArray := prog_9_method_9_code
def yX7_delete : MethodName := ⟨RX7, "delete", "(II)I"⟩
abbrev cX7_length : ByteArray := prog_9_method_10_code
def yX7_length : MethodName := ⟨RX7, "length", "()I"⟩
abbrev cX7_byteAt : ByteArray := prog_9_method_11_code
def yX7_byteAt : MethodName := ⟨RX7, "byteAt", "(I)I"⟩
abbrev cX7_isRule : ByteArray := prog_9_method_12_code
def yX7_isRule : MethodName := ⟨RX7, "isRule", "(I)Z"⟩
abbrev cX7_append : ByteArray := prog_9_method_13_code
def yX7_append : MethodName := ⟨RX7, "append", "(I)I"⟩
abbrev cX7_clearPattern : ByteArray := prog_9_method_14_code
def yX7_clearPattern : MethodName := ⟨RX7, "clearPattern", "()I"⟩
abbrev cX7_isReference : ByteArray := prog_9_method_15_code
def yX7_isReference : MethodName := ⟨RX7, "isReference", "(I)Z"⟩
abbrev cX7_define : ByteArray := prog_9_method_16_code
def yX7_define : MethodName := ⟨RX7, "define", "(I)I"⟩
abbrev cX7_undefine : ByteArray := prog_9_method_17_code
def yX7_undefine : MethodName := ⟨RX7, "undefine", "(I)I"⟩
abbrev cX7_setStop : ByteArray := prog_9_method_18_code
def yX7_setStop : MethodName := ⟨RX7, "setStop", "(II)I"⟩
abbrev cX7_elementOf : ByteArray := prog_9_method_19_code
def yX7_elementOf : MethodName := ⟨RX7, "elementOf", "(II)I"⟩
abbrev cX7_element : ByteArray := prog_9_method_20_code
def yX7_element : MethodName := ⟨RX7, "element", "(II)I"⟩
abbrev cX7_cell : ByteArray := prog_9_method_21_code
def yX7_cell : MethodName := ⟨RX7, "cell", "(III)I"⟩
abbrev cX7_isOf : ByteArray := prog_9_method_22_code
def yX7_isOf : MethodName := ⟨RX7, "isOf", "(III)Z"⟩
abbrev cX7_runEnd : ByteArray := prog_9_method_23_code
def yX7_runEnd : MethodName := ⟨RX7, "runEnd", "(III)I"⟩
abbrev cX7_elementEnd : ByteArray := prog_9_method_24_code
def yX7_elementEnd : MethodName := ⟨RX7, "elementEnd", "(II)I"⟩
abbrev cX7_islandAt : ByteArray := prog_9_method_25_code
def yX7_islandAt : MethodName := ⟨RX7, "islandAt", "(I)I"⟩
abbrev cX7_waterEnd : ByteArray := prog_9_method_26_code
def yX7_waterEnd : MethodName := ⟨RX7, "waterEnd", "(III)I"⟩
abbrev cX7_suffixEnd : ByteArray := prog_9_method_27_code
def yX7_suffixEnd : MethodName := ⟨RX7, "suffixEnd", "(III)I"⟩
abbrev cX7_findEnds : ByteArray := prog_9_method_28_code
def yX7_findEnds : MethodName := ⟨RX7, "findEnds", "()V"⟩
abbrev cX7_matchEnd : ByteArray := prog_9_method_29_code
def yX7_matchEnd : MethodName := ⟨RX7, "matchEnd", "(II)I"⟩
abbrev cX7_addNode : ByteArray := prog_9_method_30_code
def yX7_addNode : MethodName := ⟨RX7, "addNode", "(III)V"⟩
abbrev cX7_endOf : ByteArray := prog_9_method_31_code
def yX7_endOf : MethodName := ⟨RX7, "endOf", "(I)I"⟩
abbrev cX7_numberAt : ByteArray := prog_9_method_32_code
def yX7_numberAt : MethodName := ⟨RX7, "numberAt", "(I)I"⟩
abbrev cX7_followWater : ByteArray := prog_9_method_33_code
def yX7_followWater : MethodName := ⟨RX7, "followWater", "(III)I"⟩
abbrev cX7_follow : ByteArray := prog_9_method_34_code
def yX7_follow : MethodName := ⟨RX7, "follow", "(I)V"⟩
abbrev cX7_parse : ByteArray := prog_9_method_35_code
def yX7_parse : MethodName := ⟨RX7, "parse", "()V"⟩
abbrev cX7_foundOf : ByteArray := prog_9_method_36_code
def yX7_foundOf : MethodName := ⟨RX7, "foundOf", "(I)I"⟩
abbrev cX7_numberOf : ByteArray := prog_9_method_37_code
def yX7_numberOf : MethodName := ⟨RX7, "numberOf", "(I)I"⟩
abbrev cX7_depthOf : ByteArray := prog_9_method_38_code
def yX7_depthOf : MethodName := ⟨RX7, "depthOf", "(I)I"⟩
abbrev cX7_parentOf : ByteArray := prog_9_method_39_code
def yX7_parentOf : MethodName := ⟨RX7, "parentOf", "(I)I"⟩
abbrev cX7_askNode : ByteArray := prog_9_method_40_code
def yX7_askNode : MethodName := ⟨RX7, "askNode", "(II)I"⟩
abbrev cX7_nodeCount : ByteArray := prog_9_method_41_code
def yX7_nodeCount : MethodName := ⟨RX7, "nodeCount", "()I"⟩
abbrev cX7_islandCount : ByteArray := prog_9_method_42_code
def yX7_islandCount : MethodName := ⟨RX7, "islandCount", "()I"⟩
abbrev cX7_nodeRule : ByteArray := prog_9_method_43_code
def yX7_nodeRule : MethodName := ⟨RX7, "nodeRule", "(I)I"⟩
abbrev cX7_nodeStart : ByteArray := prog_9_method_44_code
def yX7_nodeStart : MethodName := ⟨RX7, "nodeStart", "(I)I"⟩
abbrev cX7_nodeEnd : ByteArray := prog_9_method_45_code
def yX7_nodeEnd : MethodName := ⟨RX7, "nodeEnd", "(I)I"⟩
abbrev cX7_nodeParent : ByteArray := prog_9_method_46_code
def yX7_nodeParent : MethodName := ⟨RX7, "nodeParent", "(I)I"⟩
abbrev cX7_nodeDepth : ByteArray := prog_9_method_47_code
def yX7_nodeDepth : MethodName := ⟨RX7, "nodeDepth", "(I)I"⟩
abbrev cX7_nodeWater : ByteArray := prog_9_method_48_code
def yX7_nodeWater : MethodName := ⟨RX7, "nodeWater", "(I)I"⟩
abbrev cX7_nodeNumber : ByteArray := prog_9_method_49_code
def yX7_nodeNumber : MethodName := ⟨RX7, "nodeNumber", "(I)I"⟩
abbrev cX7_nodeAt : ByteArray := prog_9_method_50_code
def yX7_nodeAt : MethodName := ⟨RX7, "nodeAt", "(I)I"⟩
abbrev cX7_waterLength : ByteArray := prog_9_method_51_code
def yX7_waterLength : MethodName := ⟨RX7, "waterLength", "()I"⟩
abbrev cX7_longestWater : ByteArray := prog_9_method_52_code
def yX7_longestWater : MethodName := ⟨RX7, "longestWater", "()I"⟩
abbrev cX7_countOf : ByteArray := prog_9_method_53_code
def yX7_countOf : MethodName := ⟨RX7, "countOf", "(I)I"⟩
abbrev cX7_undo : ByteArray := prog_9_method_54_code
def yX7_undo : MethodName := ⟨RX7, "undo", "()I"⟩
abbrev cX7_errorCount : ByteArray := prog_9_method_55_code
def yX7_errorCount : MethodName := ⟨RX7, "errorCount", "(I)I"⟩
abbrev cX7_mix : ByteArray := prog_9_method_56_code
def yX7_mix : MethodName := ⟨RX7, "mix", "(I)V"⟩
abbrev cX7_mixRules : ByteArray := prog_9_method_57_code
def yX7_mixRules : MethodName := ⟨RX7, "mixRules", "()V"⟩
abbrev cX7_digest : ByteArray := prog_9_method_58_code
def yX7_digest : MethodName := ⟨RX7, "digest", "()J"⟩
def RJ9 : String := "java/lang/Math"
def TJ9 : u_T := fun k => match k with
  | _ => ("", "", "", false)
def tyJ9 : Nat → FieldType := fun k => match k with
  | _ => .int
abbrev wsJ90 : List Cond := u_ws RJ9 TJ9 0
theorem nmJ9 : ∀ a, a < 0 → ∀ b, b < 0 → a ≠ b → (TJ9 a).2.1 ≠ (TJ9 b).2.1 := by decide +kernel
theorem tyJ9_ok : ∀ k, k < 0 → parseFieldDescriptor (TJ9 k).2.2.1 = some (tyJ9 k) := by decide +kernel
abbrev cJ9_max_7cf53 : ByteArray := prog_10_method_65_code
def yJ9_max_7cf53 : MethodName := ⟨RJ9, "max", "(II)I"⟩
abbrev cJ9_min_7cf53 : ByteArray := prog_10_method_69_code
def yJ9_min_7cf53 : MethodName := ⟨RJ9, "min", "(II)I"⟩
def RL : String := "IslandGrammarLaw"
abbrev cL_law : ByteArray := code
def yL_law : MethodName := ⟨RL, "law", "([I)Z"⟩
def wsL_law_r1 : List Cond := [Cond.classLink RL 7 RX6, Cond.instantiable RX6 8, Cond.initialized RX6, Cond.classLink RL 10 RX7, Cond.instantiable RX7 17, Cond.initialized RX7, Cond.methodLink RL 9 yX6_init, Cond.instanceMethod yX6_init, Cond.code yX6_init cX6_init 1 none, Cond.methodLink RX6 3 objectInit, Cond.instanceMethod objectInit, Cond.code objectInit ⟨#[0xb1]⟩ 1 none, Cond.classLink RX6 9 RX5, Cond.instantiable RX5 5, Cond.initialized RX5, Cond.fieldLink RX6 12 "IslandGrammar" "state" "LIslandGrammar$State;", Cond.classLink RX6 16 RX1, Cond.instantiable RX1 3, Cond.initialized RX1, Cond.fieldLink RX6 19 "IslandGrammar" "history" "LIslandGrammar$History;", Cond.classLink RX6 23 RX4, Cond.instantiable RX4 1, Cond.initialized RX4, Cond.fieldLink RX6 28 "IslandGrammar" "buffer" "LIslandGrammar$Row;"]
def wsL_law_r2 : List Cond := [Cond.fieldLink RX6 32 "IslandGrammar" "errors" "LIslandGrammar$Row;", Cond.classLink RX6 35 RX2, Cond.instantiable RX2 5, Cond.initialized RX2, Cond.fieldLink RX6 40 "IslandGrammar" "matcher" "LIslandGrammar$Matcher;", Cond.classLink RX6 44 RX3, Cond.instantiable RX3 16, Cond.initialized RX3, Cond.fieldLink RX6 49 "IslandGrammar" "nodes" "LIslandGrammar$Nodes;", Cond.fieldLink RX6 53 "IslandGrammar" "bufferSize" "I", Cond.fieldLink RX6 57 "IslandGrammar" "stale" "Z", Cond.methodLink RX6 11 yX5_init, Cond.instanceMethod yX5_init, Cond.code yX5_init cX5_init 1 none, Cond.methodLink RX5 3 objectInit, Cond.classLink RX5 9 RX4, Cond.fieldLink RX5 14 "IslandGrammar$State" "text" "LIslandGrammar$Row;", Cond.fieldLink RX5 20 "IslandGrammar$State" "patternSizes" "LIslandGrammar$Row;", Cond.fieldLink RX5 23 "IslandGrammar$State" "patterns" "LIslandGrammar$Row;", Cond.fieldLink RX5 26 "IslandGrammar$State" "stops" "LIslandGrammar$Row;", Cond.fieldLink RX5 29 "IslandGrammar$State" "textSize" "I", Cond.methodLink RX5 11 yX4_init, Cond.instanceMethod yX4_init, Cond.code yX4_init cX4_init 2 none]
def wsL_law_r3 : List Cond := [Cond.methodLink RX4 3 objectInit, Cond.arrayClass .int, Cond.fieldLink RX4 9 "IslandGrammar$Row" "cells" "[I", Cond.methodLink RX5 33 yX4_fill, Cond.instanceMethod yX4_fill, Cond.selects RX4 yX4_fill yX4_fill, Cond.code yX4_fill cX4_fill 3 none, Cond.instanceMethod yX1_init, Cond.code yX1_init cX1_init 1 none, Cond.methodLink RX1 3 objectInit, Cond.classLink RX1 9 RX5, Cond.fieldLink RX1 12 "IslandGrammar$History" "ring" "[LIslandGrammar$State;", Cond.fieldLink RX1 18 "IslandGrammar$History" "next" "I", Cond.fieldLink RX1 22 "IslandGrammar$History" "count" "I", Cond.methodLink RX1 11 yX5_init, Cond.methodLink RX6 25 yX4_init, Cond.methodLink RX6 37 yX2_init, Cond.instanceMethod yX2_init, Cond.code yX2_init cX2_init 2 none, Cond.methodLink RX2 3 objectInit, Cond.classLink RX2 9 RX4, Cond.fieldLink RX2 14 "IslandGrammar$Matcher" "digitEnds" "LIslandGrammar$Row;", Cond.fieldLink RX2 20 "IslandGrammar$Matcher" "letterEnds" "LIslandGrammar$Row;", Cond.fieldLink RX2 23 "IslandGrammar$Matcher" "firstRules" "LIslandGrammar$Row;"]
def wsL_law_r4 : List Cond := [Cond.classLink RX2 26 RX0, Cond.instantiable RX0 1, Cond.initialized RX0, Cond.fieldLink RX2 29 "IslandGrammar$Matcher" "restEnds" "LIslandGrammar$EndTable;", Cond.fieldLink RX2 33 "IslandGrammar$Matcher" "state" "LIslandGrammar$State;", Cond.methodLink RX2 11 yX4_init, Cond.instanceMethod yX0_init, Cond.code yX0_init cX0_init 1 none, Cond.methodLink RX0 3 objectInit, Cond.fieldLink RX0 11 "IslandGrammar$EndTable" "cells" "[I", Cond.methodLink RX6 46 yX3_init, Cond.instanceMethod yX3_init, Cond.code yX3_init cX3_init 3 none, Cond.methodLink RX3 3 objectInit, Cond.classLink RX3 9 RX4, Cond.fieldLink RX3 14 "IslandGrammar$Nodes" "rules" "LIslandGrammar$Row;", Cond.fieldLink RX3 20 "IslandGrammar$Nodes" "starts" "LIslandGrammar$Row;", Cond.fieldLink RX3 23 "IslandGrammar$Nodes" "ends" "LIslandGrammar$Row;", Cond.fieldLink RX3 26 "IslandGrammar$Nodes" "parents" "LIslandGrammar$Row;", Cond.fieldLink RX3 29 "IslandGrammar$Nodes" "depths" "LIslandGrammar$Row;", Cond.fieldLink RX3 32 "IslandGrammar$Nodes" "waters" "LIslandGrammar$Row;", Cond.fieldLink RX3 35 "IslandGrammar$Nodes" "numbers" "LIslandGrammar$Row;", Cond.fieldLink RX3 38 "IslandGrammar$Nodes" "dueRules" "LIslandGrammar$Row;", Cond.fieldLink RX3 41 "IslandGrammar$Nodes" "dueParents" "LIslandGrammar$Row;"]
def wsL_law_r5 : List Cond := [Cond.fieldLink RX3 44 "IslandGrammar$Nodes" "count" "I", Cond.fieldLink RX3 48 "IslandGrammar$Nodes" "topIslands" "I", Cond.fieldLink RX3 51 "IslandGrammar$Nodes" "topWater" "I", Cond.fieldLink RX3 54 "IslandGrammar$Nodes" "waterRun" "I", Cond.fieldLink RX3 57 "IslandGrammar$Nodes" "longestRun" "I", Cond.fieldLink RX3 60 "IslandGrammar$Nodes" "state" "LIslandGrammar$State;", Cond.fieldLink RX3 64 "IslandGrammar$Nodes" "matcher" "LIslandGrammar$Matcher;", Cond.methodLink RX3 11 yX4_init, Cond.methodLink RL 12 yX7_init, Cond.instanceMethod yX7_init, Cond.code yX7_init cX7_init 2 none, Cond.methodLink RX7 1 objectInit, Cond.fieldLink RX7 7 "IslandGrammarModel" "now" "[I", Cond.fieldLink RX7 13 "IslandGrammarModel" "history" "[I", Cond.fieldLink RX7 16 "IslandGrammarModel" "pattern" "[I", Cond.fieldLink RX7 19 "IslandGrammarModel" "errors" "[I", Cond.fieldLink RX7 22 "IslandGrammarModel" "ends" "[I", Cond.fieldLink RX7 25 "IslandGrammarModel" "foundRule" "[I", Cond.fieldLink RX7 28 "IslandGrammarModel" "foundStart" "[I", Cond.fieldLink RX7 31 "IslandGrammarModel" "foundParent" "[I", Cond.fieldLink RX7 34 "IslandGrammarModel" "foundWater" "[I", Cond.fieldLink RX7 37 "IslandGrammarModel" "foundNumber" "[I", Cond.methodLink RL 13 yX6_insert, Cond.instanceMethod yX6_insert]
def wsL_law_r6 : List Cond := [Cond.selects RX6 yX6_insert yX6_insert, Cond.code yX6_insert cX6_insert 3 (some .int), Cond.methodLink RX6 61 yX5_textSize, Cond.instanceMethod yX5_textSize, Cond.selects RX5 yX5_textSize yX5_textSize, Cond.code yX5_textSize cX5_textSize 1 (some .int), Cond.methodLink RX6 65 yX6_isByte, Cond.static yX6_isByte, Cond.code yX6_isByte cX6_isByte 1 (some .boolean), Cond.methodLink RX6 69 yX6_fail, Cond.instanceMethod yX6_fail, Cond.selects RX6 yX6_fail yX6_fail, Cond.code yX6_fail cX6_fail 3 (some .int), Cond.methodLink RX6 98 yX4_get, Cond.instanceMethod yX4_get, Cond.selects RX4 yX4_get yX4_get, Cond.code yX4_get cX4_get 2 (some .int), Cond.methodLink RX6 92 yX4_set, Cond.instanceMethod yX4_set, Cond.selects RX4 yX4_set yX4_set, Cond.code yX4_set cX4_set 3 none, Cond.methodLink RX6 73 yX6_prepareChange, Cond.instanceMethod yX6_prepareChange, Cond.selects RX6 yX6_prepareChange yX6_prepareChange]
def wsL_law_r7 : List Cond := [Cond.code yX6_prepareChange cX6_prepareChange 1 none, Cond.methodLink RX6 194 yX1_save, Cond.instanceMethod yX1_save, Cond.selects RX1 yX1_save yX1_save, Cond.code yX1_save cX1_save 2 none, Cond.methodLink RX1 33 Lib.Math.min.name, Cond.static Lib.Math.min.name, Cond.initialized "java/lang/Math", Cond.code Lib.Math.min.name Lib.Math.min.code 2 (some .int), Cond.methodLink RX1 25 yX1_slotAt, Cond.instanceMethod yX1_slotAt, Cond.selects RX1 yX1_slotAt yX1_slotAt, Cond.code yX1_slotAt cX1_slotAt 2 (some (.object "IslandGrammar$State")), Cond.methodLink RX1 29 yX5_copyFrom, Cond.instanceMethod yX5_copyFrom, Cond.selects RX5 yX5_copyFrom yX5_copyFrom, Cond.code yX5_copyFrom cX5_copyFrom 2 none, Cond.methodLink RX5 48 yX4_copyFrom, Cond.instanceMethod yX4_copyFrom, Cond.selects RX4 yX4_copyFrom yX4_copyFrom, Cond.code yX4_copyFrom cX4_copyFrom 4 none, Cond.methodLink RX4 15 Lib.Math.min.name, Cond.methodLink RX6 76 yX5_insertByte, Cond.instanceMethod yX5_insertByte]
def wsL_law_r8 : List Cond := [Cond.selects RX5 yX5_insertByte yX5_insertByte, Cond.code yX5_insertByte cX5_insertByte 4 none, Cond.methodLink RX5 36 yX4_get, Cond.methodLink RX5 40 yX4_set, Cond.methodLink RL 17 yX7_insert, Cond.instanceMethod yX7_insert, Cond.selects RX7 yX7_insert yX7_insert, Cond.code yX7_insert cX7_insert 4 (some .int), Cond.methodLink RX7 44 yX7_in, Cond.static yX7_in, Cond.code yX7_in cX7_in 3 (some .boolean), Cond.methodLink RX7 48 yX7_isByte, Cond.static yX7_isByte, Cond.code yX7_isByte cX7_isByte 1 (some .boolean), Cond.methodLink RX7 52 yX7_fail, Cond.instanceMethod yX7_fail, Cond.selects RX7 yX7_fail yX7_fail, Cond.code yX7_fail cX7_fail 2 (some .int), Cond.methodLink RX7 56 yX7_save, Cond.instanceMethod yX7_save, Cond.selects RX7 yX7_save yX7_save, Cond.code yX7_save cX7_save 2 none, Cond.fieldLink RX7 40 "IslandGrammarModel" "depth" "I", Cond.methodLink RL 18 yX6_replace]
def wsL_law_r9 : List Cond := [Cond.instanceMethod yX6_replace, Cond.selects RX6 yX6_replace yX6_replace, Cond.code yX6_replace cX6_replace 4 (some .int), Cond.methodLink RX6 80 yX6_isInText, Cond.instanceMethod yX6_isInText, Cond.selects RX6 yX6_isInText yX6_isInText, Cond.code yX6_isInText cX6_isInText 2 (some .boolean), Cond.methodLink RX6 83 yX5_textAt, Cond.instanceMethod yX5_textAt, Cond.selects RX5 yX5_textAt yX5_textAt, Cond.code yX5_textAt cX5_textAt 2 (some .int), Cond.methodLink RX6 86 yX5_setByte, Cond.instanceMethod yX5_setByte, Cond.selects RX5 yX5_setByte yX5_setByte, Cond.code yX5_setByte cX5_setByte 3 none, Cond.methodLink RL 21 yX7_replace, Cond.instanceMethod yX7_replace, Cond.selects RX7 yX7_replace yX7_replace, Cond.code yX7_replace cX7_replace 4 (some .int), Cond.methodLink RX7 59 yX7_isPosition, Cond.instanceMethod yX7_isPosition, Cond.selects RX7 yX7_isPosition yX7_isPosition, Cond.code yX7_isPosition cX7_isPosition 2 (some .boolean), Cond.methodLink RL 22 yX6_delete]
def wsL_law_r10 : List Cond := [Cond.instanceMethod yX6_delete, Cond.selects RX6 yX6_delete yX6_delete, Cond.code yX6_delete cX6_delete 3 (some .int), Cond.methodLink RX6 89 yX5_removeBytes, Cond.instanceMethod yX5_removeBytes, Cond.selects RX5 yX5_removeBytes yX5_removeBytes, Cond.code yX5_removeBytes cX5_removeBytes 4 none, Cond.methodLink RL 25 yX7_delete, Cond.instanceMethod yX7_delete, Cond.selects RX7 yX7_delete yX7_delete, Cond.code yX7_delete cX7_delete 4 (some .int), Cond.methodLink RL 26 yX6_length, Cond.instanceMethod yX6_length, Cond.selects RX6 yX6_length yX6_length, Cond.code yX6_length cX6_length 1 (some .int), Cond.methodLink RL 30 yX7_length, Cond.instanceMethod yX7_length, Cond.selects RX7 yX7_length yX7_length, Cond.code yX7_length cX7_length 1 (some .int), Cond.methodLink RL 31 yX6_byteAt, Cond.instanceMethod yX6_byteAt, Cond.selects RX6 yX6_byteAt yX6_byteAt, Cond.code yX6_byteAt cX6_byteAt 2 (some .int), Cond.methodLink RL 35 yX7_byteAt]
def wsL_law_r11 : List Cond := [Cond.instanceMethod yX7_byteAt, Cond.selects RX7 yX7_byteAt yX7_byteAt, Cond.code yX7_byteAt cX7_byteAt 2 (some .int), Cond.methodLink RL 36 yX6_append, Cond.instanceMethod yX6_append, Cond.selects RX6 yX6_append yX6_append, Cond.code yX6_append cX6_append 2 (some .int), Cond.methodLink RL 39 yX7_append, Cond.instanceMethod yX7_append, Cond.selects RX7 yX7_append yX7_append, Cond.code yX7_append cX7_append 2 (some .int), Cond.fieldLink RX7 62 "IslandGrammarModel" "patternLength" "I", Cond.methodLink RL 40 yX6_clearPattern, Cond.instanceMethod yX6_clearPattern, Cond.selects RX6 yX6_clearPattern yX6_clearPattern, Cond.code yX6_clearPattern cX6_clearPattern 2 (some .int), Cond.methodLink RL 43 yX7_clearPattern, Cond.instanceMethod yX7_clearPattern, Cond.selects RX7 yX7_clearPattern yX7_clearPattern, Cond.code yX7_clearPattern cX7_clearPattern 2 (some .int), Cond.methodLink RL 44 yX6_define, Cond.instanceMethod yX6_define, Cond.selects RX6 yX6_define yX6_define, Cond.code yX6_define cX6_define 2 (some .int)]
def wsL_law_r12 : List Cond := [Cond.methodLink RX6 95 yX6_isRule, Cond.static yX6_isRule, Cond.code yX6_isRule cX6_isRule 1 (some .boolean), Cond.methodLink RX6 101 yX6_canStartPattern, Cond.static yX6_canStartPattern, Cond.code yX6_canStartPattern cX6_canStartPattern 1 (some .boolean), Cond.methodLink RX6 189 yX6_isReference, Cond.static yX6_isReference, Cond.code yX6_isReference cX6_isReference 1 (some .boolean), Cond.methodLink RX6 104 yX5_setPattern, Cond.instanceMethod yX5_setPattern, Cond.selects RX5 yX5_setPattern yX5_setPattern, Cond.code yX5_setPattern cX5_setPattern 5 none, Cond.methodLink RL 47 yX7_define, Cond.instanceMethod yX7_define, Cond.selects RX7 yX7_define yX7_define, Cond.code yX7_define cX7_define 3 (some .int), Cond.methodLink RX7 65 yX7_isRule, Cond.static yX7_isRule, Cond.code yX7_isRule cX7_isRule 1 (some .boolean), Cond.methodLink RX7 68 yX7_isReference, Cond.static yX7_isReference, Cond.code yX7_isReference cX7_isReference 1 (some .boolean), Cond.methodLink RL 48 yX6_undefine]
def wsL_law_r13 : List Cond := [Cond.instanceMethod yX6_undefine, Cond.selects RX6 yX6_undefine yX6_undefine, Cond.code yX6_undefine cX6_undefine 3 (some .int), Cond.methodLink RX6 108 yX5_patternSize, Cond.instanceMethod yX5_patternSize, Cond.selects RX5 yX5_patternSize yX5_patternSize, Cond.code yX5_patternSize cX5_patternSize 2 (some .int), Cond.methodLink RL 51 yX7_undefine, Cond.instanceMethod yX7_undefine, Cond.selects RX7 yX7_undefine yX7_undefine, Cond.code yX7_undefine cX7_undefine 3 (some .int), Cond.methodLink RL 52 yX6_setStop, Cond.instanceMethod yX6_setStop, Cond.selects RX6 yX6_setStop yX6_setStop, Cond.code yX6_setStop cX6_setStop 4 (some .int), Cond.methodLink RX6 111 yX5_stopOf, Cond.instanceMethod yX5_stopOf, Cond.selects RX5 yX5_stopOf yX5_stopOf, Cond.code yX5_stopOf cX5_stopOf 2 (some .int), Cond.methodLink RX6 114 yX5_putStop, Cond.instanceMethod yX5_putStop, Cond.selects RX5 yX5_putStop yX5_putStop, Cond.code yX5_putStop cX5_putStop 3 none, Cond.methodLink RL 55 yX7_setStop]
def wsL_law_r14 : List Cond := [Cond.instanceMethod yX7_setStop, Cond.selects RX7 yX7_setStop yX7_setStop, Cond.code yX7_setStop cX7_setStop 4 (some .int), Cond.methodLink RL 56 yX6_element, Cond.instanceMethod yX6_element, Cond.selects RX6 yX6_element yX6_element, Cond.code yX6_element cX6_element 3 (some .int), Cond.methodLink RX6 117 yX5_patternAt, Cond.instanceMethod yX5_patternAt, Cond.selects RX5 yX5_patternAt yX5_patternAt, Cond.code yX5_patternAt cX5_patternAt 3 (some .int), Cond.methodLink RL 59 yX7_element, Cond.instanceMethod yX7_element, Cond.selects RX7 yX7_element yX7_element, Cond.code yX7_element cX7_element 3 (some .int), Cond.methodLink RX7 71 yX7_elementOf, Cond.instanceMethod yX7_elementOf, Cond.selects RX7 yX7_elementOf yX7_elementOf, Cond.code yX7_elementOf cX7_elementOf 3 (some .int), Cond.methodLink RL 60 yX6_matchEnd, Cond.instanceMethod yX6_matchEnd, Cond.selects RX6 yX6_matchEnd yX6_matchEnd, Cond.code yX6_matchEnd cX6_matchEnd 3 (some .int), Cond.methodLink RX6 121 yX6_refresh]
def wsL_law_r15 : List Cond := [Cond.instanceMethod yX6_refresh, Cond.selects RX6 yX6_refresh yX6_refresh, Cond.code yX6_refresh cX6_refresh 1 none, Cond.methodLink RX6 197 yX2_update, Cond.instanceMethod yX2_update, Cond.selects RX2 yX2_update yX2_update, Cond.code yX2_update cX2_update 3 none, Cond.methodLink RX2 37 yX5_textSize, Cond.methodLink RX2 43 yX2_markRuns, Cond.instanceMethod yX2_markRuns, Cond.selects RX2 yX2_markRuns yX2_markRuns, Cond.code yX2_markRuns cX2_markRuns 3 none, Cond.methodLink RX2 64 yX5_textAt, Cond.static yX6_isDigit, Cond.code yX6_isDigit cX6_isDigit 1 (some .boolean), Cond.methodLink RX2 70 yX2_runEnd, Cond.static yX2_runEnd, Cond.code yX2_runEnd cX2_runEnd 3 (some .int), Cond.methodLink RX2 57 yX4_get, Cond.methodLink RX2 74 yX4_set, Cond.static yX6_isLetter, Cond.code yX6_isLetter cX6_isLetter 1 (some .boolean), Cond.methodLink RX2 46 yX2_matchIslands, Cond.instanceMethod yX2_matchIslands]
def wsL_law_r16 : List Cond := [Cond.selects RX2 yX2_matchIslands yX2_matchIslands, Cond.code yX2_matchIslands cX2_matchIslands 5 none, Cond.methodLink RX2 80 yX5_patternSize, Cond.methodLink RX2 83 yX5_patternAt, Cond.methodLink RX2 87 yX2_elementEnd, Cond.instanceMethod yX2_elementEnd, Cond.selects RX2 yX2_elementEnd yX2_elementEnd, Cond.code yX2_elementEnd cX2_elementEnd 3 (some .int), Cond.methodLink RX2 53 yX0_get, Cond.instanceMethod yX0_get, Cond.selects RX0 yX0_get yX0_get, Cond.code yX0_get cX0_get 5 (some .int), Cond.methodLink RX2 90 yX0_set, Cond.instanceMethod yX0_set, Cond.selects RX0 yX0_set yX0_set, Cond.code yX0_set cX0_set 6 none, Cond.methodLink RX2 49 yX2_matchRests, Cond.instanceMethod yX2_matchRests, Cond.selects RX2 yX2_matchRests yX2_matchRests, Cond.code yX2_matchRests cX2_matchRests 7 none, Cond.methodLink RX2 93 yX2_waterRestEnd, Cond.instanceMethod yX2_waterRestEnd, Cond.selects RX2 yX2_waterRestEnd yX2_waterRestEnd, Cond.code yX2_waterRestEnd cX2_waterRestEnd 7 (some .int)]
def wsL_law_r17 : List Cond := [Cond.methodLink RX2 96 yX5_stopOf, Cond.methodLink RX6 200 yX3_update, Cond.instanceMethod yX3_update, Cond.selects RX3 yX3_update yX3_update, Cond.code yX3_update cX3_update 4 none, Cond.methodLink RX3 68 yX3_clear, Cond.instanceMethod yX3_clear, Cond.selects RX3 yX3_clear yX3_clear, Cond.code yX3_clear cX3_clear 1 none, Cond.methodLink RX3 94 yX4_fill, Cond.methodLink RX3 71 yX5_textSize, Cond.methodLink RX3 77 yX3_takeTopLevel, Cond.instanceMethod yX3_takeTopLevel, Cond.selects RX3 yX3_takeTopLevel yX3_takeTopLevel, Cond.code yX3_takeTopLevel cX3_takeTopLevel 3 (some .int), Cond.methodLink RX3 102 Lib.Math.max.name, Cond.static Lib.Math.max.name, Cond.code Lib.Math.max.name Lib.Math.max.code 2 (some .int), Cond.methodLink RX3 97 yX2_firstRule, Cond.instanceMethod yX2_firstRule, Cond.selects RX2 yX2_firstRule yX2_firstRule, Cond.code yX2_firstRule cX2_firstRule 2 (some .int), Cond.methodLink RX3 108 yX3_announce, Cond.instanceMethod yX3_announce]
def wsL_law_r18 : List Cond := [Cond.selects RX3 yX3_announce yX3_announce, Cond.code yX3_announce cX3_announce 4 none, Cond.methodLink RX3 115 yX4_set, Cond.methodLink RX3 112 yX2_islandEnd, Cond.instanceMethod yX2_islandEnd, Cond.selects RX2 yX2_islandEnd yX2_islandEnd, Cond.code yX2_islandEnd cX2_islandEnd 3 (some .int), Cond.methodLink RX3 81 yX4_get, Cond.methodLink RX3 84 yX3_addNode, Cond.instanceMethod yX3_addNode, Cond.selects RX3 yX3_addNode yX3_addNode, Cond.code yX3_addNode cX3_addNode 4 none, Cond.methodLink RX3 87 yX3_walkPattern, Cond.instanceMethod yX3_walkPattern, Cond.selects RX3 yX3_walkPattern yX3_walkPattern, Cond.code yX3_walkPattern cX3_walkPattern 8 none, Cond.methodLink RX3 119 yX5_patternSize, Cond.methodLink RX3 122 yX5_patternAt, Cond.methodLink RX3 125 yX3_walkWater, Cond.instanceMethod yX3_walkWater, Cond.selects RX3 yX3_walkWater yX3_walkWater, Cond.code yX3_walkWater cX3_walkWater 8 (some .int), Cond.methodLink RX3 139 yX2_restMatches, Cond.instanceMethod yX2_restMatches]
def wsL_law_r19 : List Cond := [Cond.selects RX2 yX2_restMatches yX2_restMatches, Cond.code yX2_restMatches cX2_restMatches 4 (some .boolean), Cond.methodLink RX3 129 yX2_elementEnd, Cond.methodLink RX3 136 yX5_numberBetween, Cond.instanceMethod yX5_numberBetween, Cond.selects RX5 yX5_numberBetween yX5_numberBetween, Cond.code yX5_numberBetween cX5_numberBetween 5 (some .int), Cond.constant RX5 47 (1000000), Cond.methodLink RX5 44 yX5_textAt, Cond.methodLink RX6 124 yX2_islandEnd, Cond.methodLink RL 63 yX7_matchEnd, Cond.instanceMethod yX7_matchEnd, Cond.selects RX7 yX7_matchEnd yX7_matchEnd, Cond.code yX7_matchEnd cX7_matchEnd 3 (some .int), Cond.methodLink RX7 97 yX7_findEnds, Cond.instanceMethod yX7_findEnds, Cond.selects RX7 yX7_findEnds yX7_findEnds, Cond.code yX7_findEnds cX7_findEnds 4 none, Cond.methodLink RX7 78 yX7_cell, Cond.static yX7_cell, Cond.code yX7_cell cX7_cell 3 (some .int), Cond.methodLink RX7 94 yX7_suffixEnd, Cond.instanceMethod yX7_suffixEnd, Cond.selects RX7 yX7_suffixEnd yX7_suffixEnd]
def wsL_law_r20 : List Cond := [Cond.code yX7_suffixEnd cX7_suffixEnd 6 (some .int), Cond.methodLink RX7 88 yX7_waterEnd, Cond.instanceMethod yX7_waterEnd, Cond.selects RX7 yX7_waterEnd yX7_waterEnd, Cond.code yX7_waterEnd cX7_waterEnd 7 (some .int), Cond.methodLink RX7 85 yX7_islandAt, Cond.instanceMethod yX7_islandAt, Cond.selects RX7 yX7_islandAt yX7_islandAt, Cond.code yX7_islandAt cX7_islandAt 3 (some .int), Cond.methodLink RX7 91 yX7_elementEnd, Cond.instanceMethod yX7_elementEnd, Cond.selects RX7 yX7_elementEnd yX7_elementEnd, Cond.code yX7_elementEnd cX7_elementEnd 4 (some .int), Cond.methodLink RX7 82 yX7_runEnd, Cond.instanceMethod yX7_runEnd, Cond.selects RX7 yX7_runEnd yX7_runEnd, Cond.code yX7_runEnd cX7_runEnd 5 (some .int), Cond.methodLink RX7 75 yX7_isOf, Cond.instanceMethod yX7_isOf, Cond.selects RX7 yX7_isOf yX7_isOf, Cond.code yX7_isOf cX7_isOf 4 (some .boolean), Cond.methodLink RL 64 yX6_nodeCount, Cond.instanceMethod yX6_nodeCount, Cond.selects RX6 yX6_nodeCount yX6_nodeCount]
def wsL_law_r21 : List Cond := [Cond.code yX6_nodeCount cX6_nodeCount 1 (some .int), Cond.methodLink RX6 127 yX3_total, Cond.instanceMethod yX3_total, Cond.selects RX3 yX3_total yX3_total, Cond.code yX3_total cX3_total 1 (some .int), Cond.methodLink RL 67 yX7_nodeCount, Cond.instanceMethod yX7_nodeCount, Cond.selects RX7 yX7_nodeCount yX7_nodeCount, Cond.code yX7_nodeCount cX7_nodeCount 1 (some .int), Cond.fieldLink RX7 100 "IslandGrammarModel" "nodes" "I", Cond.methodLink RX7 130 yX7_parse, Cond.instanceMethod yX7_parse, Cond.selects RX7 yX7_parse yX7_parse, Cond.code yX7_parse cX7_parse 4 none, Cond.fieldLink RX7 114 "IslandGrammarModel" "water" "I", Cond.fieldLink RX7 117 "IslandGrammarModel" "longest" "I", Cond.fieldLink RX7 120 "IslandGrammarModel" "islands" "I", Cond.methodLink RX7 104 yX7_addNode, Cond.instanceMethod yX7_addNode, Cond.selects RX7 yX7_addNode yX7_addNode, Cond.code yX7_addNode cX7_addNode 4 none, Cond.methodLink RX7 123 yX7_follow, Cond.instanceMethod yX7_follow, Cond.selects RX7 yX7_follow yX7_follow]
def wsL_law_r22 : List Cond := [Cond.code yX7_follow cX7_follow 6 none, Cond.methodLink RX7 108 yX7_followWater, Cond.instanceMethod yX7_followWater, Cond.selects RX7 yX7_followWater yX7_followWater, Cond.code yX7_followWater cX7_followWater 6 (some .int), Cond.methodLink RX7 111 yX7_numberAt, Cond.instanceMethod yX7_numberAt, Cond.selects RX7 yX7_numberAt yX7_numberAt, Cond.code yX7_numberAt cX7_numberAt 4 (some .int), Cond.constant RX7 103 (1000000), Cond.methodLink RL 68 yX6_islandCount, Cond.instanceMethod yX6_islandCount, Cond.selects RX6 yX6_islandCount yX6_islandCount, Cond.code yX6_islandCount cX6_islandCount 1 (some .int), Cond.methodLink RX6 130 yX3_topLevelTotal, Cond.instanceMethod yX3_topLevelTotal, Cond.selects RX3 yX3_topLevelTotal yX3_topLevelTotal, Cond.code yX3_topLevelTotal cX3_topLevelTotal 1 (some .int), Cond.methodLink RL 71 yX7_islandCount, Cond.instanceMethod yX7_islandCount, Cond.selects RX7 yX7_islandCount yX7_islandCount, Cond.code yX7_islandCount cX7_islandCount 1 (some .int), Cond.methodLink RL 72 yX6_nodeRule, Cond.instanceMethod yX6_nodeRule]
def wsL_law_r23 : List Cond := [Cond.selects RX6 yX6_nodeRule yX6_nodeRule, Cond.code yX6_nodeRule cX6_nodeRule 2 (some .int), Cond.methodLink RX6 133 yX3_has, Cond.instanceMethod yX3_has, Cond.selects RX3 yX3_has yX3_has, Cond.code yX3_has cX3_has 2 (some .boolean), Cond.methodLink RX6 136 yX3_ruleOf, Cond.instanceMethod yX3_ruleOf, Cond.selects RX3 yX3_ruleOf yX3_ruleOf, Cond.code yX3_ruleOf cX3_ruleOf 2 (some .int), Cond.methodLink RL 75 yX7_nodeRule, Cond.instanceMethod yX7_nodeRule, Cond.selects RX7 yX7_nodeRule yX7_nodeRule, Cond.code yX7_nodeRule cX7_nodeRule 2 (some .int), Cond.methodLink RX7 145 yX7_askNode, Cond.instanceMethod yX7_askNode, Cond.selects RX7 yX7_askNode yX7_askNode, Cond.code yX7_askNode cX7_askNode 4 (some .int), Cond.methodLink RX7 133 yX7_foundOf, Cond.instanceMethod yX7_foundOf, Cond.selects RX7 yX7_foundOf yX7_foundOf, Cond.code yX7_foundOf cX7_foundOf 3 (some .int), Cond.methodLink RX7 127 yX7_numberOf, Cond.instanceMethod yX7_numberOf]
def wsL_law_r24 : List Cond := [Cond.selects RX7 yX7_numberOf yX7_numberOf, Cond.code yX7_numberOf cX7_numberOf 4 (some .int), Cond.methodLink RX7 136 yX7_endOf, Cond.instanceMethod yX7_endOf, Cond.selects RX7 yX7_endOf yX7_endOf, Cond.code yX7_endOf cX7_endOf 2 (some .int), Cond.methodLink RX7 139 yX7_parentOf, Cond.instanceMethod yX7_parentOf, Cond.selects RX7 yX7_parentOf yX7_parentOf, Cond.code yX7_parentOf cX7_parentOf 2 (some .int), Cond.methodLink RX7 142 yX7_depthOf, Cond.instanceMethod yX7_depthOf, Cond.selects RX7 yX7_depthOf yX7_depthOf, Cond.code yX7_depthOf cX7_depthOf 4 (some .int), Cond.methodLink RL 76 yX6_nodeStart, Cond.instanceMethod yX6_nodeStart, Cond.selects RX6 yX6_nodeStart yX6_nodeStart, Cond.code yX6_nodeStart cX6_nodeStart 2 (some .int), Cond.methodLink RX6 139 yX3_startOf, Cond.instanceMethod yX3_startOf, Cond.selects RX3 yX3_startOf yX3_startOf, Cond.code yX3_startOf cX3_startOf 2 (some .int), Cond.methodLink RL 79 yX7_nodeStart, Cond.instanceMethod yX7_nodeStart]
def wsL_law_r25 : List Cond := [Cond.selects RX7 yX7_nodeStart yX7_nodeStart, Cond.code yX7_nodeStart cX7_nodeStart 2 (some .int), Cond.methodLink RL 80 yX6_nodeEnd, Cond.instanceMethod yX6_nodeEnd, Cond.selects RX6 yX6_nodeEnd yX6_nodeEnd, Cond.code yX6_nodeEnd cX6_nodeEnd 2 (some .int), Cond.methodLink RX6 142 yX3_endOf, Cond.instanceMethod yX3_endOf, Cond.selects RX3 yX3_endOf yX3_endOf, Cond.code yX3_endOf cX3_endOf 2 (some .int), Cond.methodLink RL 83 yX7_nodeEnd, Cond.instanceMethod yX7_nodeEnd, Cond.selects RX7 yX7_nodeEnd yX7_nodeEnd, Cond.code yX7_nodeEnd cX7_nodeEnd 2 (some .int), Cond.methodLink RL 84 yX6_nodeParent, Cond.instanceMethod yX6_nodeParent, Cond.selects RX6 yX6_nodeParent yX6_nodeParent, Cond.code yX6_nodeParent cX6_nodeParent 2 (some .int), Cond.methodLink RX6 145 yX3_parentOf, Cond.instanceMethod yX3_parentOf, Cond.selects RX3 yX3_parentOf yX3_parentOf, Cond.code yX3_parentOf cX3_parentOf 2 (some .int), Cond.methodLink RL 87 yX7_nodeParent, Cond.instanceMethod yX7_nodeParent]
def wsL_law_r26 : List Cond := [Cond.selects RX7 yX7_nodeParent yX7_nodeParent, Cond.code yX7_nodeParent cX7_nodeParent 2 (some .int), Cond.methodLink RL 88 yX6_nodeDepth, Cond.instanceMethod yX6_nodeDepth, Cond.selects RX6 yX6_nodeDepth yX6_nodeDepth, Cond.code yX6_nodeDepth cX6_nodeDepth 2 (some .int), Cond.methodLink RX6 148 yX3_depthOf, Cond.instanceMethod yX3_depthOf, Cond.selects RX3 yX3_depthOf yX3_depthOf, Cond.code yX3_depthOf cX3_depthOf 2 (some .int), Cond.methodLink RL 91 yX7_nodeDepth, Cond.instanceMethod yX7_nodeDepth, Cond.selects RX7 yX7_nodeDepth yX7_nodeDepth, Cond.code yX7_nodeDepth cX7_nodeDepth 2 (some .int), Cond.methodLink RL 92 yX6_nodeWater, Cond.instanceMethod yX6_nodeWater, Cond.selects RX6 yX6_nodeWater yX6_nodeWater, Cond.code yX6_nodeWater cX6_nodeWater 2 (some .int), Cond.methodLink RX6 151 yX3_waterOf, Cond.instanceMethod yX3_waterOf, Cond.selects RX3 yX3_waterOf yX3_waterOf, Cond.code yX3_waterOf cX3_waterOf 2 (some .int), Cond.methodLink RL 95 yX7_nodeWater, Cond.instanceMethod yX7_nodeWater]
def wsL_law_r27 : List Cond := [Cond.selects RX7 yX7_nodeWater yX7_nodeWater, Cond.code yX7_nodeWater cX7_nodeWater 2 (some .int), Cond.methodLink RL 96 yX6_nodeNumber, Cond.instanceMethod yX6_nodeNumber, Cond.selects RX6 yX6_nodeNumber yX6_nodeNumber, Cond.code yX6_nodeNumber cX6_nodeNumber 2 (some .int), Cond.methodLink RX6 154 yX3_numberOf, Cond.instanceMethod yX3_numberOf, Cond.selects RX3 yX3_numberOf yX3_numberOf, Cond.code yX3_numberOf cX3_numberOf 2 (some .int), Cond.methodLink RL 99 yX7_nodeNumber, Cond.instanceMethod yX7_nodeNumber, Cond.selects RX7 yX7_nodeNumber yX7_nodeNumber, Cond.code yX7_nodeNumber cX7_nodeNumber 2 (some .int), Cond.methodLink RL 100 yX6_nodeAt, Cond.instanceMethod yX6_nodeAt, Cond.selects RX6 yX6_nodeAt yX6_nodeAt, Cond.code yX6_nodeAt cX6_nodeAt 2 (some .int), Cond.methodLink RX6 157 yX3_innermostAt, Cond.instanceMethod yX3_innermostAt, Cond.selects RX3 yX3_innermostAt yX3_innermostAt, Cond.code yX3_innermostAt cX3_innermostAt 3 (some .int), Cond.methodLink RL 103 yX7_nodeAt, Cond.instanceMethod yX7_nodeAt]
def wsL_law_r28 : List Cond := [Cond.selects RX7 yX7_nodeAt yX7_nodeAt, Cond.code yX7_nodeAt cX7_nodeAt 5 (some .int), Cond.methodLink RL 104 yX6_waterLength, Cond.instanceMethod yX6_waterLength, Cond.selects RX6 yX6_waterLength yX6_waterLength, Cond.code yX6_waterLength cX6_waterLength 1 (some .int), Cond.methodLink RX6 160 yX3_topWater, Cond.instanceMethod yX3_topWater, Cond.selects RX3 yX3_topWater yX3_topWater, Cond.code yX3_topWater cX3_topWater 1 (some .int), Cond.methodLink RL 107 yX7_waterLength, Cond.instanceMethod yX7_waterLength, Cond.selects RX7 yX7_waterLength yX7_waterLength, Cond.code yX7_waterLength cX7_waterLength 1 (some .int), Cond.methodLink RL 108 yX6_longestWater, Cond.instanceMethod yX6_longestWater, Cond.selects RX6 yX6_longestWater yX6_longestWater, Cond.code yX6_longestWater cX6_longestWater 1 (some .int), Cond.methodLink RX6 163 yX3_longestTopWater, Cond.instanceMethod yX3_longestTopWater, Cond.selects RX3 yX3_longestTopWater yX3_longestTopWater, Cond.code yX3_longestTopWater cX3_longestTopWater 1 (some .int), Cond.methodLink RL 111 yX7_longestWater, Cond.instanceMethod yX7_longestWater]
def wsL_law_r29 : List Cond := [Cond.selects RX7 yX7_longestWater yX7_longestWater, Cond.code yX7_longestWater cX7_longestWater 1 (some .int), Cond.methodLink RL 112 yX6_countOf, Cond.instanceMethod yX6_countOf, Cond.selects RX6 yX6_countOf yX6_countOf, Cond.code yX6_countOf cX6_countOf 2 (some .int), Cond.methodLink RX6 166 yX3_totalOf, Cond.instanceMethod yX3_totalOf, Cond.selects RX3 yX3_totalOf yX3_totalOf, Cond.code yX3_totalOf cX3_totalOf 4 (some .int), Cond.methodLink RL 115 yX7_countOf, Cond.instanceMethod yX7_countOf, Cond.selects RX7 yX7_countOf yX7_countOf, Cond.code yX7_countOf cX7_countOf 4 (some .int), Cond.methodLink RL 116 yX6_undo, Cond.instanceMethod yX6_undo, Cond.selects RX6 yX6_undo yX6_undo, Cond.code yX6_undo cX6_undo 1 (some .int), Cond.methodLink RX6 169 yX1_savedCount, Cond.instanceMethod yX1_savedCount, Cond.selects RX1 yX1_savedCount yX1_savedCount, Cond.code yX1_savedCount cX1_savedCount 1 (some .int), Cond.methodLink RX6 172 yX1_restore, Cond.instanceMethod yX1_restore]
def wsL_law_r30 : List Cond := [Cond.selects RX1 yX1_restore yX1_restore, Cond.code yX1_restore cX1_restore 2 none, Cond.methodLink RX1 39 Lib.Math.max.name, Cond.methodLink RL 119 yX7_undo, Cond.instanceMethod yX7_undo, Cond.selects RX7 yX7_undo yX7_undo, Cond.code yX7_undo cX7_undo 2 (some .int), Cond.methodLink RL 120 yX6_errorCount, Cond.instanceMethod yX6_errorCount, Cond.selects RX6 yX6_errorCount yX6_errorCount, Cond.code yX6_errorCount cX6_errorCount 2 (some .int), Cond.methodLink RL 123 yX7_errorCount, Cond.instanceMethod yX7_errorCount, Cond.selects RX7 yX7_errorCount yX7_errorCount, Cond.code yX7_errorCount cX7_errorCount 2 (some .int), Cond.methodLink RL 124 yX6_digest, Cond.instanceMethod yX6_digest, Cond.selects RX6 yX6_digest yX6_digest, Cond.code yX6_digest cX6_digest 3 (some .long), Cond.constantLong RX6 175 (17305), Cond.methodLink RX6 177 yX4_mixInto, Cond.instanceMethod yX4_mixInto, Cond.selects RX4 yX4_mixInto yX4_mixInto, Cond.code yX4_mixInto cX4_mixInto 8 (some .long)]
def wsL_law_r31 : List Cond := [Cond.methodLink RX4 21 yX4_get, Cond.static yX6_mix, Cond.code yX6_mix cX6_mix 4 (some .long), Cond.constantLong RX6 192 (31), Cond.methodLink RX6 181 yX6_mix, Cond.methodLink RX6 185 yX5_mixInto, Cond.instanceMethod yX5_mixInto, Cond.selects RX5 yX5_mixInto yX5_mixInto, Cond.code yX5_mixInto cX5_mixInto 7 (some .long), Cond.methodLink RX5 56 yX4_mixInto, Cond.methodLink RX5 60 yX5_patternSize, Cond.methodLink RX5 63 yX5_stopOf, Cond.methodLink RX6 188 yX3_mixInto, Cond.instanceMethod yX3_mixInto, Cond.selects RX3 yX3_mixInto yX3_mixInto, Cond.code yX3_mixInto cX3_mixInto 6 (some .long), Cond.methodLink RL 128 yX7_digest, Cond.instanceMethod yX7_digest, Cond.selects RX7 yX7_digest yX7_digest, Cond.code yX7_digest cX7_digest 3 (some .long), Cond.constantLong RX7 157 (17305), Cond.fieldLink RX7 150 "IslandGrammarModel" "hash" "J", Cond.methodLink RX7 154 yX7_mix, Cond.instanceMethod yX7_mix]
def wsL_law_r32 : List Cond := [Cond.selects RX7 yX7_mix yX7_mix, Cond.code yX7_mix cX7_mix 2 none, Cond.constantLong RX7 148 (31), Cond.methodLink RX7 159 yX7_mixRules, Cond.instanceMethod yX7_mixRules, Cond.selects RX7 yX7_mixRules yX7_mixRules, Cond.code yX7_mixRules cX7_mixRules 3 none]
def wsL_law : List Cond := (wsL_law_r1 ++ (wsL_law_r2 ++ (wsL_law_r3 ++ (wsL_law_r4 ++ (wsL_law_r5 ++ (wsL_law_r6 ++ (wsL_law_r7 ++ (wsL_law_r8 ++ (wsL_law_r9 ++ (wsL_law_r10 ++ (wsL_law_r11 ++ (wsL_law_r12 ++ (wsL_law_r13 ++ (wsL_law_r14 ++ (wsL_law_r15 ++ (wsL_law_r16 ++ (wsL_law_r17 ++ (wsL_law_r18 ++ (wsL_law_r19 ++ (wsL_law_r20 ++ (wsL_law_r21 ++ (wsL_law_r22 ++ (wsL_law_r23 ++ (wsL_law_r24 ++ (wsL_law_r25 ++ (wsL_law_r26 ++ (wsL_law_r27 ++ (wsL_law_r28 ++ (wsL_law_r29 ++ (wsL_law_r30 ++ (wsL_law_r31 ++ wsL_law_r32))))))))))))))))))))))))))))))) ++ wsX60 ++ wsX70 ++ wsX50 ++ wsX10 ++ wsX40 ++ wsX20 ++ wsX30 ++ wsX00 ++ ([] : List Cond)
theorem inlX0 : ∀ w ∈ wsX00, w ∈ wsL_law := fun _ h => List.mem_append_left _ (List.mem_append_right _ h)
theorem inlX1 : ∀ w ∈ wsX10, w ∈ wsL_law := fun _ h => List.mem_append_left _ (List.mem_append_left _ (List.mem_append_left _ (List.mem_append_left _ (List.mem_append_left _ (List.mem_append_right _ h)))))
theorem inlX2 : ∀ w ∈ wsX20, w ∈ wsL_law := fun _ h => List.mem_append_left _ (List.mem_append_left _ (List.mem_append_left _ (List.mem_append_right _ h)))
theorem inlX3 : ∀ w ∈ wsX30, w ∈ wsL_law := fun _ h => List.mem_append_left _ (List.mem_append_left _ (List.mem_append_right _ h))
theorem inlX4 : ∀ w ∈ wsX40, w ∈ wsL_law := fun _ h => List.mem_append_left _ (List.mem_append_left _ (List.mem_append_left _ (List.mem_append_left _ (List.mem_append_right _ h))))
theorem inlX5 : ∀ w ∈ wsX50, w ∈ wsL_law := fun _ h => List.mem_append_left _ (List.mem_append_left _ (List.mem_append_left _ (List.mem_append_left _ (List.mem_append_left _ (List.mem_append_left _ (List.mem_append_right _ h))))))
theorem inlX6 : ∀ w ∈ wsX60, w ∈ wsL_law := fun _ h => List.mem_append_left _ (List.mem_append_left _ (List.mem_append_left _ (List.mem_append_left _ (List.mem_append_left _ (List.mem_append_left _ (List.mem_append_left _ (List.mem_append_left _ (List.mem_append_right _ h))))))))
theorem inlX7 : ∀ w ∈ wsX70, w ∈ wsL_law := fun _ h => List.mem_append_left _ (List.mem_append_left _ (List.mem_append_left _ (List.mem_append_left _ (List.mem_append_left _ (List.mem_append_left _ (List.mem_append_left _ (List.mem_append_right _ h)))))))
abbrev vwCl : List vw_C := [(RX0, TX0, 1), (RX1, TX1, 3), (RX2, TX2, 5), (RX3, TX3, 16), (RX4, TX4, 1), (RX5, TX5, 5), (RX6, TX6, 8), (RX7, TX7, 17)]
end
section
set_option maxRecDepth 100000 in
theorem gWAll : wsL_law.all goodWord = true := by decide +kernel
set_option maxRecDepth 100000 in
theorem wm_0 : Cond.classLink RL 7 RX6 ∈ wsL_law := List.mem_of_getElem? (i := 0) (by decide +kernel)
set_option maxRecDepth 100000 in
theorem wm_1 : Cond.instantiable RX6 8 ∈ wsL_law := List.mem_of_getElem? (i := 1) (by decide +kernel)
set_option maxRecDepth 100000 in
theorem wm_2 : Cond.initialized RX6 ∈ wsL_law := List.mem_of_getElem? (i := 2) (by decide +kernel)
set_option maxRecDepth 100000 in
theorem wm_3 : Cond.classLink RL 10 RX7 ∈ wsL_law := List.mem_of_getElem? (i := 3) (by decide +kernel)
set_option maxRecDepth 100000 in
theorem wm_4 : Cond.instantiable RX7 17 ∈ wsL_law := List.mem_of_getElem? (i := 4) (by decide +kernel)
set_option maxRecDepth 100000 in
theorem wm_5 : Cond.initialized RX7 ∈ wsL_law := List.mem_of_getElem? (i := 5) (by decide +kernel)
set_option maxRecDepth 100000 in
theorem wm_6 : Cond.methodLink RL 9 yX6_init ∈ wsL_law := List.mem_of_getElem? (i := 6) (by decide +kernel)
set_option maxRecDepth 100000 in
theorem wm_7 : Cond.instanceMethod yX6_init ∈ wsL_law := List.mem_of_getElem? (i := 7) (by decide +kernel)
set_option maxRecDepth 100000 in
theorem wm_8 : Cond.code yX6_init cX6_init 1 none ∈ wsL_law := List.mem_of_getElem? (i := 8) (by decide +kernel)
set_option maxRecDepth 100000 in
theorem wm_9 : Cond.methodLink RX6 3 objectInit ∈ wsL_law := List.mem_of_getElem? (i := 9) (by decide +kernel)
set_option maxRecDepth 100000 in
theorem wm_10 : Cond.instanceMethod objectInit ∈ wsL_law := List.mem_of_getElem? (i := 10) (by decide +kernel)
set_option maxRecDepth 100000 in
theorem wm_11 : Cond.code objectInit ⟨#[0xb1]⟩ 1 none ∈ wsL_law := List.mem_of_getElem? (i := 11) (by decide +kernel)
set_option maxRecDepth 100000 in
theorem wm_12 : Cond.classLink RX6 9 RX5 ∈ wsL_law := List.mem_of_getElem? (i := 12) (by decide +kernel)
set_option maxRecDepth 100000 in
theorem wm_13 : Cond.instantiable RX5 5 ∈ wsL_law := List.mem_of_getElem? (i := 13) (by decide +kernel)
set_option maxRecDepth 100000 in
theorem wm_14 : Cond.initialized RX5 ∈ wsL_law := List.mem_of_getElem? (i := 14) (by decide +kernel)
set_option maxRecDepth 100000 in
theorem wm_15 : Cond.fieldLink RX6 12 "IslandGrammar" "state" "LIslandGrammar$State;" ∈ wsL_law := List.mem_of_getElem? (i := 15) (by decide +kernel)
set_option maxRecDepth 100000 in
theorem wm_16 : Cond.classLink RX6 16 RX1 ∈ wsL_law := List.mem_of_getElem? (i := 16) (by decide +kernel)
set_option maxRecDepth 100000 in
theorem wm_17 : Cond.instantiable RX1 3 ∈ wsL_law := List.mem_of_getElem? (i := 17) (by decide +kernel)
set_option maxRecDepth 100000 in
theorem wm_18 : Cond.initialized RX1 ∈ wsL_law := List.mem_of_getElem? (i := 18) (by decide +kernel)
set_option maxRecDepth 100000 in
theorem wm_19 : Cond.fieldLink RX6 19 "IslandGrammar" "history" "LIslandGrammar$History;" ∈ wsL_law := List.mem_of_getElem? (i := 19) (by decide +kernel)
set_option maxRecDepth 100000 in
theorem wm_20 : Cond.classLink RX6 23 RX4 ∈ wsL_law := List.mem_of_getElem? (i := 20) (by decide +kernel)
set_option maxRecDepth 100000 in
theorem wm_21 : Cond.instantiable RX4 1 ∈ wsL_law := List.mem_of_getElem? (i := 21) (by decide +kernel)
set_option maxRecDepth 100000 in
theorem wm_22 : Cond.initialized RX4 ∈ wsL_law := List.mem_of_getElem? (i := 22) (by decide +kernel)
set_option maxRecDepth 100000 in
theorem wm_23 : Cond.fieldLink RX6 28 "IslandGrammar" "buffer" "LIslandGrammar$Row;" ∈ wsL_law := List.mem_of_getElem? (i := 23) (by decide +kernel)
set_option maxRecDepth 100000 in
theorem wm_24 : Cond.fieldLink RX6 32 "IslandGrammar" "errors" "LIslandGrammar$Row;" ∈ wsL_law := List.mem_of_getElem? (i := 24) (by decide +kernel)
set_option maxRecDepth 100000 in
theorem wm_25 : Cond.classLink RX6 35 RX2 ∈ wsL_law := List.mem_of_getElem? (i := 25) (by decide +kernel)
set_option maxRecDepth 100000 in
theorem wm_26 : Cond.instantiable RX2 5 ∈ wsL_law := List.mem_of_getElem? (i := 26) (by decide +kernel)
set_option maxRecDepth 100000 in
theorem wm_27 : Cond.initialized RX2 ∈ wsL_law := List.mem_of_getElem? (i := 27) (by decide +kernel)
set_option maxRecDepth 100000 in
theorem wm_28 : Cond.fieldLink RX6 40 "IslandGrammar" "matcher" "LIslandGrammar$Matcher;" ∈ wsL_law := List.mem_of_getElem? (i := 28) (by decide +kernel)
set_option maxRecDepth 100000 in
theorem wm_29 : Cond.classLink RX6 44 RX3 ∈ wsL_law := List.mem_of_getElem? (i := 29) (by decide +kernel)
set_option maxRecDepth 100000 in
theorem wm_30 : Cond.instantiable RX3 16 ∈ wsL_law := List.mem_of_getElem? (i := 30) (by decide +kernel)
set_option maxRecDepth 100000 in
theorem wm_31 : Cond.initialized RX3 ∈ wsL_law := List.mem_of_getElem? (i := 31) (by decide +kernel)
set_option maxRecDepth 100000 in
theorem wm_32 : Cond.fieldLink RX6 49 "IslandGrammar" "nodes" "LIslandGrammar$Nodes;" ∈ wsL_law := List.mem_of_getElem? (i := 32) (by decide +kernel)
set_option maxRecDepth 100000 in
theorem wm_33 : Cond.fieldLink RX6 53 "IslandGrammar" "bufferSize" "I" ∈ wsL_law := List.mem_of_getElem? (i := 33) (by decide +kernel)
set_option maxRecDepth 100000 in
theorem wm_34 : Cond.fieldLink RX6 57 "IslandGrammar" "stale" "Z" ∈ wsL_law := List.mem_of_getElem? (i := 34) (by decide +kernel)
set_option maxRecDepth 100000 in
theorem wm_35 : Cond.methodLink RX6 11 yX5_init ∈ wsL_law := List.mem_of_getElem? (i := 35) (by decide +kernel)
set_option maxRecDepth 100000 in
theorem wm_36 : Cond.instanceMethod yX5_init ∈ wsL_law := List.mem_of_getElem? (i := 36) (by decide +kernel)
set_option maxRecDepth 100000 in
theorem wm_37 : Cond.code yX5_init cX5_init 1 none ∈ wsL_law := List.mem_of_getElem? (i := 37) (by decide +kernel)
set_option maxRecDepth 100000 in
theorem wm_38 : Cond.methodLink RX5 3 objectInit ∈ wsL_law := List.mem_of_getElem? (i := 38) (by decide +kernel)
set_option maxRecDepth 100000 in
theorem wm_39 : Cond.classLink RX5 9 RX4 ∈ wsL_law := List.mem_of_getElem? (i := 39) (by decide +kernel)
set_option maxRecDepth 100000 in
theorem wm_40 : Cond.fieldLink RX5 14 "IslandGrammar$State" "text" "LIslandGrammar$Row;" ∈ wsL_law := List.mem_of_getElem? (i := 40) (by decide +kernel)
set_option maxRecDepth 100000 in
theorem wm_41 : Cond.fieldLink RX5 20 "IslandGrammar$State" "patternSizes" "LIslandGrammar$Row;" ∈ wsL_law := List.mem_of_getElem? (i := 41) (by decide +kernel)
set_option maxRecDepth 100000 in
theorem wm_42 : Cond.fieldLink RX5 23 "IslandGrammar$State" "patterns" "LIslandGrammar$Row;" ∈ wsL_law := List.mem_of_getElem? (i := 42) (by decide +kernel)
set_option maxRecDepth 100000 in
theorem wm_43 : Cond.fieldLink RX5 26 "IslandGrammar$State" "stops" "LIslandGrammar$Row;" ∈ wsL_law := List.mem_of_getElem? (i := 43) (by decide +kernel)
set_option maxRecDepth 100000 in
theorem wm_44 : Cond.fieldLink RX5 29 "IslandGrammar$State" "textSize" "I" ∈ wsL_law := List.mem_of_getElem? (i := 44) (by decide +kernel)
set_option maxRecDepth 100000 in
theorem wm_45 : Cond.methodLink RX5 11 yX4_init ∈ wsL_law := List.mem_of_getElem? (i := 45) (by decide +kernel)
set_option maxRecDepth 100000 in
theorem wm_46 : Cond.instanceMethod yX4_init ∈ wsL_law := List.mem_of_getElem? (i := 46) (by decide +kernel)
set_option maxRecDepth 100000 in
theorem wm_47 : Cond.code yX4_init cX4_init 2 none ∈ wsL_law := List.mem_of_getElem? (i := 47) (by decide +kernel)
set_option maxRecDepth 100000 in
theorem wm_48 : Cond.methodLink RX4 3 objectInit ∈ wsL_law := List.mem_of_getElem? (i := 48) (by decide +kernel)
set_option maxRecDepth 100000 in
theorem wm_49 : Cond.arrayClass .int ∈ wsL_law := List.mem_of_getElem? (i := 49) (by decide +kernel)
set_option maxRecDepth 100000 in
theorem wm_50 : Cond.fieldLink RX4 9 "IslandGrammar$Row" "cells" "[I" ∈ wsL_law := List.mem_of_getElem? (i := 50) (by decide +kernel)
set_option maxRecDepth 100000 in
theorem wm_51 : Cond.methodLink RX5 33 yX4_fill ∈ wsL_law := List.mem_of_getElem? (i := 51) (by decide +kernel)
set_option maxRecDepth 100000 in
theorem wm_52 : Cond.instanceMethod yX4_fill ∈ wsL_law := List.mem_of_getElem? (i := 52) (by decide +kernel)
set_option maxRecDepth 100000 in
theorem wm_53 : Cond.selects RX4 yX4_fill yX4_fill ∈ wsL_law := List.mem_of_getElem? (i := 53) (by decide +kernel)
set_option maxRecDepth 100000 in
theorem wm_54 : Cond.code yX4_fill cX4_fill 3 none ∈ wsL_law := List.mem_of_getElem? (i := 54) (by decide +kernel)
set_option maxRecDepth 100000 in
theorem wm_55 : Cond.instanceMethod yX1_init ∈ wsL_law := List.mem_of_getElem? (i := 55) (by decide +kernel)
set_option maxRecDepth 100000 in
theorem wm_56 : Cond.code yX1_init cX1_init 1 none ∈ wsL_law := List.mem_of_getElem? (i := 56) (by decide +kernel)
set_option maxRecDepth 100000 in
theorem wm_57 : Cond.methodLink RX1 3 objectInit ∈ wsL_law := List.mem_of_getElem? (i := 57) (by decide +kernel)
set_option maxRecDepth 100000 in
theorem wm_58 : Cond.classLink RX1 9 RX5 ∈ wsL_law := List.mem_of_getElem? (i := 58) (by decide +kernel)
set_option maxRecDepth 100000 in
theorem wm_59 : Cond.fieldLink RX1 12 "IslandGrammar$History" "ring" "[LIslandGrammar$State;" ∈ wsL_law := List.mem_of_getElem? (i := 59) (by decide +kernel)
set_option maxRecDepth 100000 in
theorem wm_60 : Cond.fieldLink RX1 18 "IslandGrammar$History" "next" "I" ∈ wsL_law := List.mem_of_getElem? (i := 60) (by decide +kernel)
set_option maxRecDepth 100000 in
theorem wm_61 : Cond.fieldLink RX1 22 "IslandGrammar$History" "count" "I" ∈ wsL_law := List.mem_of_getElem? (i := 61) (by decide +kernel)
set_option maxRecDepth 100000 in
theorem wm_62 : Cond.methodLink RX1 11 yX5_init ∈ wsL_law := List.mem_of_getElem? (i := 62) (by decide +kernel)
set_option maxRecDepth 100000 in
theorem wm_63 : Cond.methodLink RX6 25 yX4_init ∈ wsL_law := List.mem_of_getElem? (i := 63) (by decide +kernel)
set_option maxRecDepth 100000 in
theorem wm_64 : Cond.methodLink RX6 37 yX2_init ∈ wsL_law := List.mem_of_getElem? (i := 64) (by decide +kernel)
set_option maxRecDepth 100000 in
theorem wm_65 : Cond.instanceMethod yX2_init ∈ wsL_law := List.mem_of_getElem? (i := 65) (by decide +kernel)
set_option maxRecDepth 100000 in
theorem wm_66 : Cond.code yX2_init cX2_init 2 none ∈ wsL_law := List.mem_of_getElem? (i := 66) (by decide +kernel)
set_option maxRecDepth 100000 in
theorem wm_67 : Cond.methodLink RX2 3 objectInit ∈ wsL_law := List.mem_of_getElem? (i := 67) (by decide +kernel)
set_option maxRecDepth 100000 in
theorem wm_68 : Cond.classLink RX2 9 RX4 ∈ wsL_law := List.mem_of_getElem? (i := 68) (by decide +kernel)
set_option maxRecDepth 100000 in
theorem wm_69 : Cond.fieldLink RX2 14 "IslandGrammar$Matcher" "digitEnds" "LIslandGrammar$Row;" ∈ wsL_law := List.mem_of_getElem? (i := 69) (by decide +kernel)
set_option maxRecDepth 100000 in
theorem wm_70 : Cond.fieldLink RX2 20 "IslandGrammar$Matcher" "letterEnds" "LIslandGrammar$Row;" ∈ wsL_law := List.mem_of_getElem? (i := 70) (by decide +kernel)
set_option maxRecDepth 100000 in
theorem wm_71 : Cond.fieldLink RX2 23 "IslandGrammar$Matcher" "firstRules" "LIslandGrammar$Row;" ∈ wsL_law := List.mem_of_getElem? (i := 71) (by decide +kernel)
set_option maxRecDepth 100000 in
theorem wm_72 : Cond.classLink RX2 26 RX0 ∈ wsL_law := List.mem_of_getElem? (i := 72) (by decide +kernel)
set_option maxRecDepth 100000 in
theorem wm_73 : Cond.instantiable RX0 1 ∈ wsL_law := List.mem_of_getElem? (i := 73) (by decide +kernel)
set_option maxRecDepth 100000 in
theorem wm_74 : Cond.initialized RX0 ∈ wsL_law := List.mem_of_getElem? (i := 74) (by decide +kernel)
set_option maxRecDepth 100000 in
theorem wm_75 : Cond.fieldLink RX2 29 "IslandGrammar$Matcher" "restEnds" "LIslandGrammar$EndTable;" ∈ wsL_law := List.mem_of_getElem? (i := 75) (by decide +kernel)
set_option maxRecDepth 100000 in
theorem wm_76 : Cond.fieldLink RX2 33 "IslandGrammar$Matcher" "state" "LIslandGrammar$State;" ∈ wsL_law := List.mem_of_getElem? (i := 76) (by decide +kernel)
set_option maxRecDepth 100000 in
theorem wm_77 : Cond.methodLink RX2 11 yX4_init ∈ wsL_law := List.mem_of_getElem? (i := 77) (by decide +kernel)
set_option maxRecDepth 100000 in
theorem wm_78 : Cond.instanceMethod yX0_init ∈ wsL_law := List.mem_of_getElem? (i := 78) (by decide +kernel)
set_option maxRecDepth 100000 in
theorem wm_79 : Cond.code yX0_init cX0_init 1 none ∈ wsL_law := List.mem_of_getElem? (i := 79) (by decide +kernel)
set_option maxRecDepth 100000 in
theorem wm_80 : Cond.methodLink RX0 3 objectInit ∈ wsL_law := List.mem_of_getElem? (i := 80) (by decide +kernel)
set_option maxRecDepth 100000 in
theorem wm_81 : Cond.fieldLink RX0 11 "IslandGrammar$EndTable" "cells" "[I" ∈ wsL_law := List.mem_of_getElem? (i := 81) (by decide +kernel)
set_option maxRecDepth 100000 in
theorem wm_82 : Cond.methodLink RX6 46 yX3_init ∈ wsL_law := List.mem_of_getElem? (i := 82) (by decide +kernel)
set_option maxRecDepth 100000 in
theorem wm_83 : Cond.instanceMethod yX3_init ∈ wsL_law := List.mem_of_getElem? (i := 83) (by decide +kernel)
set_option maxRecDepth 100000 in
theorem wm_84 : Cond.code yX3_init cX3_init 3 none ∈ wsL_law := List.mem_of_getElem? (i := 84) (by decide +kernel)
set_option maxRecDepth 100000 in
theorem wm_85 : Cond.methodLink RX3 3 objectInit ∈ wsL_law := List.mem_of_getElem? (i := 85) (by decide +kernel)
set_option maxRecDepth 100000 in
theorem wm_86 : Cond.classLink RX3 9 RX4 ∈ wsL_law := List.mem_of_getElem? (i := 86) (by decide +kernel)
set_option maxRecDepth 100000 in
theorem wm_87 : Cond.fieldLink RX3 14 "IslandGrammar$Nodes" "rules" "LIslandGrammar$Row;" ∈ wsL_law := List.mem_of_getElem? (i := 87) (by decide +kernel)
set_option maxRecDepth 100000 in
theorem wm_88 : Cond.fieldLink RX3 20 "IslandGrammar$Nodes" "starts" "LIslandGrammar$Row;" ∈ wsL_law := List.mem_of_getElem? (i := 88) (by decide +kernel)
set_option maxRecDepth 100000 in
theorem wm_89 : Cond.fieldLink RX3 23 "IslandGrammar$Nodes" "ends" "LIslandGrammar$Row;" ∈ wsL_law := List.mem_of_getElem? (i := 89) (by decide +kernel)
set_option maxRecDepth 100000 in
theorem wm_90 : Cond.fieldLink RX3 26 "IslandGrammar$Nodes" "parents" "LIslandGrammar$Row;" ∈ wsL_law := List.mem_of_getElem? (i := 90) (by decide +kernel)
set_option maxRecDepth 100000 in
theorem wm_91 : Cond.fieldLink RX3 29 "IslandGrammar$Nodes" "depths" "LIslandGrammar$Row;" ∈ wsL_law := List.mem_of_getElem? (i := 91) (by decide +kernel)
set_option maxRecDepth 100000 in
theorem wm_92 : Cond.fieldLink RX3 32 "IslandGrammar$Nodes" "waters" "LIslandGrammar$Row;" ∈ wsL_law := List.mem_of_getElem? (i := 92) (by decide +kernel)
set_option maxRecDepth 100000 in
theorem wm_93 : Cond.fieldLink RX3 35 "IslandGrammar$Nodes" "numbers" "LIslandGrammar$Row;" ∈ wsL_law := List.mem_of_getElem? (i := 93) (by decide +kernel)
set_option maxRecDepth 100000 in
theorem wm_94 : Cond.fieldLink RX3 38 "IslandGrammar$Nodes" "dueRules" "LIslandGrammar$Row;" ∈ wsL_law := List.mem_of_getElem? (i := 94) (by decide +kernel)
set_option maxRecDepth 100000 in
theorem wm_95 : Cond.fieldLink RX3 41 "IslandGrammar$Nodes" "dueParents" "LIslandGrammar$Row;" ∈ wsL_law := List.mem_of_getElem? (i := 95) (by decide +kernel)
set_option maxRecDepth 100000 in
theorem wm_96 : Cond.fieldLink RX3 44 "IslandGrammar$Nodes" "count" "I" ∈ wsL_law := List.mem_of_getElem? (i := 96) (by decide +kernel)
set_option maxRecDepth 100000 in
theorem wm_97 : Cond.fieldLink RX3 48 "IslandGrammar$Nodes" "topIslands" "I" ∈ wsL_law := List.mem_of_getElem? (i := 97) (by decide +kernel)
set_option maxRecDepth 100000 in
theorem wm_98 : Cond.fieldLink RX3 51 "IslandGrammar$Nodes" "topWater" "I" ∈ wsL_law := List.mem_of_getElem? (i := 98) (by decide +kernel)
set_option maxRecDepth 100000 in
theorem wm_99 : Cond.fieldLink RX3 54 "IslandGrammar$Nodes" "waterRun" "I" ∈ wsL_law := List.mem_of_getElem? (i := 99) (by decide +kernel)
set_option maxRecDepth 100000 in
theorem wm_100 : Cond.fieldLink RX3 57 "IslandGrammar$Nodes" "longestRun" "I" ∈ wsL_law := List.mem_of_getElem? (i := 100) (by decide +kernel)
set_option maxRecDepth 100000 in
theorem wm_101 : Cond.fieldLink RX3 60 "IslandGrammar$Nodes" "state" "LIslandGrammar$State;" ∈ wsL_law := List.mem_of_getElem? (i := 101) (by decide +kernel)
set_option maxRecDepth 100000 in
theorem wm_102 : Cond.fieldLink RX3 64 "IslandGrammar$Nodes" "matcher" "LIslandGrammar$Matcher;" ∈ wsL_law := List.mem_of_getElem? (i := 102) (by decide +kernel)
set_option maxRecDepth 100000 in
theorem wm_103 : Cond.methodLink RX3 11 yX4_init ∈ wsL_law := List.mem_of_getElem? (i := 103) (by decide +kernel)
set_option maxRecDepth 100000 in
theorem wm_104 : Cond.methodLink RL 12 yX7_init ∈ wsL_law := List.mem_of_getElem? (i := 104) (by decide +kernel)
set_option maxRecDepth 100000 in
theorem wm_105 : Cond.instanceMethod yX7_init ∈ wsL_law := List.mem_of_getElem? (i := 105) (by decide +kernel)
set_option maxRecDepth 100000 in
theorem wm_106 : Cond.code yX7_init cX7_init 2 none ∈ wsL_law := List.mem_of_getElem? (i := 106) (by decide +kernel)
set_option maxRecDepth 100000 in
theorem wm_107 : Cond.methodLink RX7 1 objectInit ∈ wsL_law := List.mem_of_getElem? (i := 107) (by decide +kernel)
set_option maxRecDepth 100000 in
theorem wm_108 : Cond.fieldLink RX7 7 "IslandGrammarModel" "now" "[I" ∈ wsL_law := List.mem_of_getElem? (i := 108) (by decide +kernel)
set_option maxRecDepth 100000 in
theorem wm_109 : Cond.fieldLink RX7 13 "IslandGrammarModel" "history" "[I" ∈ wsL_law := List.mem_of_getElem? (i := 109) (by decide +kernel)
set_option maxRecDepth 100000 in
theorem wm_110 : Cond.fieldLink RX7 16 "IslandGrammarModel" "pattern" "[I" ∈ wsL_law := List.mem_of_getElem? (i := 110) (by decide +kernel)
set_option maxRecDepth 100000 in
theorem wm_111 : Cond.fieldLink RX7 19 "IslandGrammarModel" "errors" "[I" ∈ wsL_law := List.mem_of_getElem? (i := 111) (by decide +kernel)
set_option maxRecDepth 100000 in
theorem wm_112 : Cond.fieldLink RX7 22 "IslandGrammarModel" "ends" "[I" ∈ wsL_law := List.mem_of_getElem? (i := 112) (by decide +kernel)
set_option maxRecDepth 100000 in
theorem wm_113 : Cond.fieldLink RX7 25 "IslandGrammarModel" "foundRule" "[I" ∈ wsL_law := List.mem_of_getElem? (i := 113) (by decide +kernel)
set_option maxRecDepth 100000 in
theorem wm_114 : Cond.fieldLink RX7 28 "IslandGrammarModel" "foundStart" "[I" ∈ wsL_law := List.mem_of_getElem? (i := 114) (by decide +kernel)
set_option maxRecDepth 100000 in
theorem wm_115 : Cond.fieldLink RX7 31 "IslandGrammarModel" "foundParent" "[I" ∈ wsL_law := List.mem_of_getElem? (i := 115) (by decide +kernel)
set_option maxRecDepth 100000 in
theorem wm_116 : Cond.fieldLink RX7 34 "IslandGrammarModel" "foundWater" "[I" ∈ wsL_law := List.mem_of_getElem? (i := 116) (by decide +kernel)
set_option maxRecDepth 100000 in
theorem wm_117 : Cond.fieldLink RX7 37 "IslandGrammarModel" "foundNumber" "[I" ∈ wsL_law := List.mem_of_getElem? (i := 117) (by decide +kernel)
end
section
theorem dL_law_0 : decode cL_law 0 = .ok (.new 7, 3) := by decide +kernel
theorem dL_law_11 : decode cL_law 11 = .ok (.dup, 1) := by decide +kernel
theorem dL_law_12 : decode cL_law 12 = .ok (.invokespecial 12, 3) := by decide +kernel
theorem dL_law_15 : decode cL_law 15 = .ok (.astore_n 2, 1) := by decide +kernel
theorem dL_law_16 : decode cL_law 16 = .ok (.iconst 0, 1) := by decide +kernel
theorem dL_law_17 : decode cL_law 17 = .ok (.istore_n 3, 1) := by decide +kernel
theorem dL_law_18 : decode cL_law 18 = .ok (.iload_n 3, 1) := by decide +kernel
theorem dL_law_19 : decode cL_law 19 = .ok (.aload_n 0, 1) := by decide +kernel
theorem dL_law_20 : decode cL_law 20 = .ok (.arraylength, 1) := by decide +kernel
theorem dL_law_21 : decode cL_law 21 = .ok (.iconst 3, 1) := by decide +kernel
theorem dL_law_22 : decode cL_law 22 = .ok (.isub, 1) := by decide +kernel
theorem dL_law_23 : decode cL_law 23 = .ok (.if_icmp .gt 768, 3) := by decide +kernel
theorem dL_law_3 : decode cL_law 3 = .ok (.dup, 1) := by decide +kernel
theorem dL_law_4 : decode cL_law 4 = .ok (.invokespecial 9, 3) := by decide +kernel
theorem dL_law_7 : decode cL_law 7 = .ok (.astore_n 1, 1) := by decide +kernel
theorem dL_law_791 : decode cL_law 791 = .ok (.iconst 1, 1) := by decide +kernel
theorem dL_law_792 : decode cL_law 792 = .ok (.ireturn, 1) := by decide +kernel
theorem dL_law_8 : decode cL_law 8 = .ok (.new 10, 3) := by decide +kernel
theorem dX0_init_0 : decode cX0_init 0 = .ok (.aload_n 0, 1) := by decide +kernel
theorem dX0_init_1 : decode cX0_init 1 = .ok (.invokespecial 3, 3) := by decide +kernel
theorem dX0_init_10 : decode cX0_init 10 = .ok (.putfield 11, 3) := by decide +kernel
theorem dX0_init_13 : decode cX0_init 13 = .ok (.return_, 1) := by decide +kernel
theorem dX0_init_4 : decode cX0_init 4 = .ok (.aload_n 0, 1) := by decide +kernel
theorem dX0_init_5 : decode cX0_init 5 = .ok (.sipush 5454, 3) := by decide +kernel
theorem dX0_init_8 : decode cX0_init 8 = .ok (.newarray .int, 2) := by decide +kernel
theorem dX1_init_0 : decode cX1_init 0 = .ok (.aload_n 0, 1) := by decide +kernel
theorem dX1_init_1 : decode cX1_init 1 = .ok (.invokespecial 3, 3) := by decide +kernel
theorem dX1_init_10 : decode cX1_init 10 = .ok (.iconst 0, 1) := by decide +kernel
theorem dX1_init_11 : decode cX1_init 11 = .ok (.new 9, 3) := by decide +kernel
theorem dX1_init_14 : decode cX1_init 14 = .ok (.dup, 1) := by decide +kernel
theorem dX1_init_15 : decode cX1_init 15 = .ok (.invokespecial 11, 3) := by decide +kernel
theorem dX1_init_18 : decode cX1_init 18 = .ok (.aastore, 1) := by decide +kernel
theorem dX1_init_19 : decode cX1_init 19 = .ok (.dup, 1) := by decide +kernel
theorem dX1_init_20 : decode cX1_init 20 = .ok (.iconst 1, 1) := by decide +kernel
theorem dX1_init_21 : decode cX1_init 21 = .ok (.new 9, 3) := by decide +kernel
theorem dX1_init_24 : decode cX1_init 24 = .ok (.dup, 1) := by decide +kernel
theorem dX1_init_25 : decode cX1_init 25 = .ok (.invokespecial 11, 3) := by decide +kernel
theorem dX1_init_28 : decode cX1_init 28 = .ok (.aastore, 1) := by decide +kernel
theorem dX1_init_29 : decode cX1_init 29 = .ok (.dup, 1) := by decide +kernel
theorem dX1_init_30 : decode cX1_init 30 = .ok (.iconst 2, 1) := by decide +kernel
theorem dX1_init_31 : decode cX1_init 31 = .ok (.new 9, 3) := by decide +kernel
theorem dX1_init_34 : decode cX1_init 34 = .ok (.dup, 1) := by decide +kernel
theorem dX1_init_35 : decode cX1_init 35 = .ok (.invokespecial 11, 3) := by decide +kernel
theorem dX1_init_38 : decode cX1_init 38 = .ok (.aastore, 1) := by decide +kernel
theorem dX1_init_39 : decode cX1_init 39 = .ok (.dup, 1) := by decide +kernel
theorem dX1_init_4 : decode cX1_init 4 = .ok (.aload_n 0, 1) := by decide +kernel
theorem dX1_init_40 : decode cX1_init 40 = .ok (.iconst 3, 1) := by decide +kernel
theorem dX1_init_41 : decode cX1_init 41 = .ok (.new 9, 3) := by decide +kernel
theorem dX1_init_44 : decode cX1_init 44 = .ok (.dup, 1) := by decide +kernel
theorem dX1_init_45 : decode cX1_init 45 = .ok (.invokespecial 11, 3) := by decide +kernel
theorem dX1_init_48 : decode cX1_init 48 = .ok (.aastore, 1) := by decide +kernel
theorem dX1_init_49 : decode cX1_init 49 = .ok (.putfield 12, 3) := by decide +kernel
theorem dX1_init_5 : decode cX1_init 5 = .ok (.iconst 4, 1) := by decide +kernel
theorem dX1_init_52 : decode cX1_init 52 = .ok (.aload_n 0, 1) := by decide +kernel
theorem dX1_init_53 : decode cX1_init 53 = .ok (.iconst 0, 1) := by decide +kernel
theorem dX1_init_54 : decode cX1_init 54 = .ok (.putfield 18, 3) := by decide +kernel
theorem dX1_init_57 : decode cX1_init 57 = .ok (.aload_n 0, 1) := by decide +kernel
theorem dX1_init_58 : decode cX1_init 58 = .ok (.iconst 0, 1) := by decide +kernel
theorem dX1_init_59 : decode cX1_init 59 = .ok (.putfield 22, 3) := by decide +kernel
theorem dX1_init_6 : decode cX1_init 6 = .ok (.anewarray 9, 3) := by decide +kernel
theorem dX1_init_62 : decode cX1_init 62 = .ok (.return_, 1) := by decide +kernel
theorem dX1_init_9 : decode cX1_init 9 = .ok (.dup, 1) := by decide +kernel
theorem dX2_init_0 : decode cX2_init 0 = .ok (.aload_n 0, 1) := by decide +kernel
theorem dX2_init_1 : decode cX2_init 1 = .ok (.invokespecial 3, 3) := by decide +kernel
theorem dX2_init_11 : decode cX2_init 11 = .ok (.invokespecial 11, 3) := by decide +kernel
theorem dX2_init_14 : decode cX2_init 14 = .ok (.putfield 14, 3) := by decide +kernel
theorem dX2_init_17 : decode cX2_init 17 = .ok (.aload_n 0, 1) := by decide +kernel
theorem dX2_init_18 : decode cX2_init 18 = .ok (.new 9, 3) := by decide +kernel
theorem dX2_init_21 : decode cX2_init 21 = .ok (.dup, 1) := by decide +kernel
theorem dX2_init_22 : decode cX2_init 22 = .ok (.bipush 101, 2) := by decide +kernel
theorem dX2_init_24 : decode cX2_init 24 = .ok (.invokespecial 11, 3) := by decide +kernel
theorem dX2_init_27 : decode cX2_init 27 = .ok (.putfield 20, 3) := by decide +kernel
theorem dX2_init_30 : decode cX2_init 30 = .ok (.aload_n 0, 1) := by decide +kernel
theorem dX2_init_31 : decode cX2_init 31 = .ok (.new 9, 3) := by decide +kernel
theorem dX2_init_34 : decode cX2_init 34 = .ok (.dup, 1) := by decide +kernel
theorem dX2_init_35 : decode cX2_init 35 = .ok (.bipush 101, 2) := by decide +kernel
theorem dX2_init_37 : decode cX2_init 37 = .ok (.invokespecial 11, 3) := by decide +kernel
theorem dX2_init_4 : decode cX2_init 4 = .ok (.aload_n 0, 1) := by decide +kernel
theorem dX2_init_40 : decode cX2_init 40 = .ok (.putfield 23, 3) := by decide +kernel
theorem dX2_init_43 : decode cX2_init 43 = .ok (.aload_n 0, 1) := by decide +kernel
theorem dX2_init_44 : decode cX2_init 44 = .ok (.new 26, 3) := by decide +kernel
theorem dX2_init_47 : decode cX2_init 47 = .ok (.dup, 1) := by decide +kernel
theorem dX2_init_48 : decode cX2_init 48 = .ok (.invokespecial 28, 3) := by decide +kernel
theorem dX2_init_5 : decode cX2_init 5 = .ok (.new 9, 3) := by decide +kernel
theorem dX2_init_51 : decode cX2_init 51 = .ok (.putfield 29, 3) := by decide +kernel
theorem dX2_init_54 : decode cX2_init 54 = .ok (.aload_n 0, 1) := by decide +kernel
theorem dX2_init_55 : decode cX2_init 55 = .ok (.aload_n 1, 1) := by decide +kernel
theorem dX2_init_56 : decode cX2_init 56 = .ok (.putfield 33, 3) := by decide +kernel
theorem dX2_init_59 : decode cX2_init 59 = .ok (.return_, 1) := by decide +kernel
theorem dX2_init_8 : decode cX2_init 8 = .ok (.dup, 1) := by decide +kernel
theorem dX2_init_9 : decode cX2_init 9 = .ok (.bipush 101, 2) := by decide +kernel
theorem dX3_init_0 : decode cX3_init 0 = .ok (.aload_n 0, 1) := by decide +kernel
theorem dX3_init_1 : decode cX3_init 1 = .ok (.invokespecial 3, 3) := by decide +kernel
theorem dX3_init_100 : decode cX3_init 100 = .ok (.bipush 100, 2) := by decide +kernel
theorem dX3_init_102 : decode cX3_init 102 = .ok (.invokespecial 11, 3) := by decide +kernel
theorem dX3_init_105 : decode cX3_init 105 = .ok (.putfield 38, 3) := by decide +kernel
theorem dX3_init_108 : decode cX3_init 108 = .ok (.aload_n 0, 1) := by decide +kernel
theorem dX3_init_109 : decode cX3_init 109 = .ok (.new 9, 3) := by decide +kernel
theorem dX3_init_11 : decode cX3_init 11 = .ok (.invokespecial 11, 3) := by decide +kernel
theorem dX3_init_112 : decode cX3_init 112 = .ok (.dup, 1) := by decide +kernel
theorem dX3_init_113 : decode cX3_init 113 = .ok (.bipush 100, 2) := by decide +kernel
theorem dX3_init_115 : decode cX3_init 115 = .ok (.invokespecial 11, 3) := by decide +kernel
theorem dX3_init_118 : decode cX3_init 118 = .ok (.putfield 41, 3) := by decide +kernel
theorem dX3_init_121 : decode cX3_init 121 = .ok (.aload_n 0, 1) := by decide +kernel
theorem dX3_init_122 : decode cX3_init 122 = .ok (.iconst 0, 1) := by decide +kernel
theorem dX3_init_123 : decode cX3_init 123 = .ok (.putfield 44, 3) := by decide +kernel
theorem dX3_init_126 : decode cX3_init 126 = .ok (.aload_n 0, 1) := by decide +kernel
theorem dX3_init_127 : decode cX3_init 127 = .ok (.iconst 0, 1) := by decide +kernel
theorem dX3_init_128 : decode cX3_init 128 = .ok (.putfield 48, 3) := by decide +kernel
theorem dX3_init_131 : decode cX3_init 131 = .ok (.aload_n 0, 1) := by decide +kernel
theorem dX3_init_132 : decode cX3_init 132 = .ok (.iconst 0, 1) := by decide +kernel
theorem dX3_init_133 : decode cX3_init 133 = .ok (.putfield 51, 3) := by decide +kernel
theorem dX3_init_136 : decode cX3_init 136 = .ok (.aload_n 0, 1) := by decide +kernel
theorem dX3_init_137 : decode cX3_init 137 = .ok (.iconst 0, 1) := by decide +kernel
theorem dX3_init_138 : decode cX3_init 138 = .ok (.putfield 54, 3) := by decide +kernel
theorem dX3_init_14 : decode cX3_init 14 = .ok (.putfield 14, 3) := by decide +kernel
theorem dX3_init_141 : decode cX3_init 141 = .ok (.aload_n 0, 1) := by decide +kernel
theorem dX3_init_142 : decode cX3_init 142 = .ok (.iconst 0, 1) := by decide +kernel
theorem dX3_init_143 : decode cX3_init 143 = .ok (.putfield 57, 3) := by decide +kernel
theorem dX3_init_146 : decode cX3_init 146 = .ok (.aload_n 0, 1) := by decide +kernel
theorem dX3_init_147 : decode cX3_init 147 = .ok (.aload_n 1, 1) := by decide +kernel
theorem dX3_init_148 : decode cX3_init 148 = .ok (.putfield 60, 3) := by decide +kernel
theorem dX3_init_151 : decode cX3_init 151 = .ok (.aload_n 0, 1) := by decide +kernel
theorem dX3_init_152 : decode cX3_init 152 = .ok (.aload_n 2, 1) := by decide +kernel
theorem dX3_init_153 : decode cX3_init 153 = .ok (.putfield 64, 3) := by decide +kernel
theorem dX3_init_156 : decode cX3_init 156 = .ok (.return_, 1) := by decide +kernel
theorem dX3_init_17 : decode cX3_init 17 = .ok (.aload_n 0, 1) := by decide +kernel
theorem dX3_init_18 : decode cX3_init 18 = .ok (.new 9, 3) := by decide +kernel
theorem dX3_init_21 : decode cX3_init 21 = .ok (.dup, 1) := by decide +kernel
theorem dX3_init_22 : decode cX3_init 22 = .ok (.bipush 100, 2) := by decide +kernel
theorem dX3_init_24 : decode cX3_init 24 = .ok (.invokespecial 11, 3) := by decide +kernel
theorem dX3_init_27 : decode cX3_init 27 = .ok (.putfield 20, 3) := by decide +kernel
theorem dX3_init_30 : decode cX3_init 30 = .ok (.aload_n 0, 1) := by decide +kernel
theorem dX3_init_31 : decode cX3_init 31 = .ok (.new 9, 3) := by decide +kernel
theorem dX3_init_34 : decode cX3_init 34 = .ok (.dup, 1) := by decide +kernel
theorem dX3_init_35 : decode cX3_init 35 = .ok (.bipush 100, 2) := by decide +kernel
theorem dX3_init_37 : decode cX3_init 37 = .ok (.invokespecial 11, 3) := by decide +kernel
theorem dX3_init_4 : decode cX3_init 4 = .ok (.aload_n 0, 1) := by decide +kernel
theorem dX3_init_40 : decode cX3_init 40 = .ok (.putfield 23, 3) := by decide +kernel
theorem dX3_init_43 : decode cX3_init 43 = .ok (.aload_n 0, 1) := by decide +kernel
theorem dX3_init_44 : decode cX3_init 44 = .ok (.new 9, 3) := by decide +kernel
theorem dX3_init_47 : decode cX3_init 47 = .ok (.dup, 1) := by decide +kernel
theorem dX3_init_48 : decode cX3_init 48 = .ok (.bipush 100, 2) := by decide +kernel
theorem dX3_init_5 : decode cX3_init 5 = .ok (.new 9, 3) := by decide +kernel
theorem dX3_init_50 : decode cX3_init 50 = .ok (.invokespecial 11, 3) := by decide +kernel
theorem dX3_init_53 : decode cX3_init 53 = .ok (.putfield 26, 3) := by decide +kernel
theorem dX3_init_56 : decode cX3_init 56 = .ok (.aload_n 0, 1) := by decide +kernel
theorem dX3_init_57 : decode cX3_init 57 = .ok (.new 9, 3) := by decide +kernel
theorem dX3_init_60 : decode cX3_init 60 = .ok (.dup, 1) := by decide +kernel
theorem dX3_init_61 : decode cX3_init 61 = .ok (.bipush 100, 2) := by decide +kernel
theorem dX3_init_63 : decode cX3_init 63 = .ok (.invokespecial 11, 3) := by decide +kernel
theorem dX3_init_66 : decode cX3_init 66 = .ok (.putfield 29, 3) := by decide +kernel
theorem dX3_init_69 : decode cX3_init 69 = .ok (.aload_n 0, 1) := by decide +kernel
theorem dX3_init_70 : decode cX3_init 70 = .ok (.new 9, 3) := by decide +kernel
theorem dX3_init_73 : decode cX3_init 73 = .ok (.dup, 1) := by decide +kernel
theorem dX3_init_74 : decode cX3_init 74 = .ok (.bipush 100, 2) := by decide +kernel
theorem dX3_init_76 : decode cX3_init 76 = .ok (.invokespecial 11, 3) := by decide +kernel
theorem dX3_init_79 : decode cX3_init 79 = .ok (.putfield 32, 3) := by decide +kernel
theorem dX3_init_8 : decode cX3_init 8 = .ok (.dup, 1) := by decide +kernel
theorem dX3_init_82 : decode cX3_init 82 = .ok (.aload_n 0, 1) := by decide +kernel
theorem dX3_init_83 : decode cX3_init 83 = .ok (.new 9, 3) := by decide +kernel
theorem dX3_init_86 : decode cX3_init 86 = .ok (.dup, 1) := by decide +kernel
theorem dX3_init_87 : decode cX3_init 87 = .ok (.bipush 100, 2) := by decide +kernel
theorem dX3_init_89 : decode cX3_init 89 = .ok (.invokespecial 11, 3) := by decide +kernel
theorem dX3_init_9 : decode cX3_init 9 = .ok (.bipush 100, 2) := by decide +kernel
theorem dX3_init_92 : decode cX3_init 92 = .ok (.putfield 35, 3) := by decide +kernel
theorem dX3_init_95 : decode cX3_init 95 = .ok (.aload_n 0, 1) := by decide +kernel
theorem dX3_init_96 : decode cX3_init 96 = .ok (.new 9, 3) := by decide +kernel
theorem dX3_init_99 : decode cX3_init 99 = .ok (.dup, 1) := by decide +kernel
theorem dX4_fill_0 : decode cX4_fill 0 = .ok (.iconst 0, 1) := by decide +kernel
theorem dX4_fill_1 : decode cX4_fill 1 = .ok (.istore_n 2, 1) := by decide +kernel
theorem dX4_fill_11 : decode cX4_fill 11 = .ok (.aload_n 0, 1) := by decide +kernel
theorem dX4_fill_12 : decode cX4_fill 12 = .ok (.getfield 9, 3) := by decide +kernel
theorem dX4_fill_15 : decode cX4_fill 15 = .ok (.iload_n 2, 1) := by decide +kernel
theorem dX4_fill_16 : decode cX4_fill 16 = .ok (.iload_n 1, 1) := by decide +kernel
theorem dX4_fill_17 : decode cX4_fill 17 = .ok (.iastore, 1) := by decide +kernel
theorem dX4_fill_18 : decode cX4_fill 18 = .ok (.iinc 2 1, 3) := by decide +kernel
theorem dX4_fill_2 : decode cX4_fill 2 = .ok (.iload_n 2, 1) := by decide +kernel
theorem dX4_fill_21 : decode cX4_fill 21 = .ok (.goto (-19), 3) := by decide +kernel
theorem dX4_fill_24 : decode cX4_fill 24 = .ok (.return_, 1) := by decide +kernel
theorem dX4_fill_3 : decode cX4_fill 3 = .ok (.aload_n 0, 1) := by decide +kernel
theorem dX4_fill_4 : decode cX4_fill 4 = .ok (.getfield 9, 3) := by decide +kernel
theorem dX4_fill_7 : decode cX4_fill 7 = .ok (.arraylength, 1) := by decide +kernel
theorem dX4_fill_8 : decode cX4_fill 8 = .ok (.if_icmp .ge 16, 3) := by decide +kernel
theorem dX4_init_0 : decode cX4_init 0 = .ok (.aload_n 0, 1) := by decide +kernel
theorem dX4_init_1 : decode cX4_init 1 = .ok (.invokespecial 3, 3) := by decide +kernel
theorem dX4_init_10 : decode cX4_init 10 = .ok (.goto 4, 3) := by decide +kernel
theorem dX4_init_14 : decode cX4_init 14 = .ok (.newarray .int, 2) := by decide +kernel
theorem dX4_init_16 : decode cX4_init 16 = .ok (.putfield 9, 3) := by decide +kernel
theorem dX4_init_19 : decode cX4_init 19 = .ok (.return_, 1) := by decide +kernel
theorem dX4_init_4 : decode cX4_init 4 = .ok (.aload_n 0, 1) := by decide +kernel
theorem dX4_init_5 : decode cX4_init 5 = .ok (.iload_n 1, 1) := by decide +kernel
theorem dX4_init_6 : decode cX4_init 6 = .ok (.ifCond .le 7, 3) := by decide +kernel
theorem dX4_init_9 : decode cX4_init 9 = .ok (.iload_n 1, 1) := by decide +kernel
theorem dX5_init_0 : decode cX5_init 0 = .ok (.aload_n 0, 1) := by decide +kernel
theorem dX5_init_1 : decode cX5_init 1 = .ok (.invokespecial 3, 3) := by decide +kernel
theorem dX5_init_11 : decode cX5_init 11 = .ok (.invokespecial 11, 3) := by decide +kernel
theorem dX5_init_14 : decode cX5_init 14 = .ok (.putfield 14, 3) := by decide +kernel
theorem dX5_init_17 : decode cX5_init 17 = .ok (.aload_n 0, 1) := by decide +kernel
theorem dX5_init_18 : decode cX5_init 18 = .ok (.new 9, 3) := by decide +kernel
theorem dX5_init_21 : decode cX5_init 21 = .ok (.dup, 1) := by decide +kernel
theorem dX5_init_22 : decode cX5_init 22 = .ok (.bipush 6, 2) := by decide +kernel
theorem dX5_init_24 : decode cX5_init 24 = .ok (.invokespecial 11, 3) := by decide +kernel
theorem dX5_init_27 : decode cX5_init 27 = .ok (.putfield 20, 3) := by decide +kernel
theorem dX5_init_30 : decode cX5_init 30 = .ok (.aload_n 0, 1) := by decide +kernel
theorem dX5_init_31 : decode cX5_init 31 = .ok (.new 9, 3) := by decide +kernel
theorem dX5_init_34 : decode cX5_init 34 = .ok (.dup, 1) := by decide +kernel
theorem dX5_init_35 : decode cX5_init 35 = .ok (.bipush 48, 2) := by decide +kernel
theorem dX5_init_37 : decode cX5_init 37 = .ok (.invokespecial 11, 3) := by decide +kernel
theorem dX5_init_4 : decode cX5_init 4 = .ok (.aload_n 0, 1) := by decide +kernel
theorem dX5_init_40 : decode cX5_init 40 = .ok (.putfield 23, 3) := by decide +kernel
theorem dX5_init_43 : decode cX5_init 43 = .ok (.aload_n 0, 1) := by decide +kernel
theorem dX5_init_44 : decode cX5_init 44 = .ok (.new 9, 3) := by decide +kernel
theorem dX5_init_47 : decode cX5_init 47 = .ok (.dup, 1) := by decide +kernel
theorem dX5_init_48 : decode cX5_init 48 = .ok (.bipush 6, 2) := by decide +kernel
theorem dX5_init_5 : decode cX5_init 5 = .ok (.new 9, 3) := by decide +kernel
theorem dX5_init_50 : decode cX5_init 50 = .ok (.invokespecial 11, 3) := by decide +kernel
theorem dX5_init_53 : decode cX5_init 53 = .ok (.putfield 26, 3) := by decide +kernel
theorem dX5_init_56 : decode cX5_init 56 = .ok (.aload_n 0, 1) := by decide +kernel
theorem dX5_init_57 : decode cX5_init 57 = .ok (.iconst 0, 1) := by decide +kernel
theorem dX5_init_58 : decode cX5_init 58 = .ok (.putfield 29, 3) := by decide +kernel
theorem dX5_init_61 : decode cX5_init 61 = .ok (.aload_n 0, 1) := by decide +kernel
theorem dX5_init_62 : decode cX5_init 62 = .ok (.getfield 26, 3) := by decide +kernel
theorem dX5_init_65 : decode cX5_init 65 = .ok (.iconst (-1), 1) := by decide +kernel
theorem dX5_init_66 : decode cX5_init 66 = .ok (.invokevirtual 33, 3) := by decide +kernel
theorem dX5_init_69 : decode cX5_init 69 = .ok (.return_, 1) := by decide +kernel
theorem dX5_init_8 : decode cX5_init 8 = .ok (.dup, 1) := by decide +kernel
theorem dX5_init_9 : decode cX5_init 9 = .ok (.bipush 100, 2) := by decide +kernel
theorem dX6_init_0 : decode cX6_init 0 = .ok (.aload_n 0, 1) := by decide +kernel
theorem dX6_init_1 : decode cX6_init 1 = .ok (.invokespecial 3, 3) := by decide +kernel
theorem dX6_init_12 : decode cX6_init 12 = .ok (.putfield 12, 3) := by decide +kernel
theorem dX6_init_15 : decode cX6_init 15 = .ok (.aload_n 0, 1) := by decide +kernel
theorem dX6_init_16 : decode cX6_init 16 = .ok (.new 16, 3) := by decide +kernel
theorem dX6_init_19 : decode cX6_init 19 = .ok (.dup, 1) := by decide +kernel
theorem dX6_init_20 : decode cX6_init 20 = .ok (.invokespecial 18, 3) := by decide +kernel
theorem dX6_init_23 : decode cX6_init 23 = .ok (.putfield 19, 3) := by decide +kernel
theorem dX6_init_26 : decode cX6_init 26 = .ok (.aload_n 0, 1) := by decide +kernel
theorem dX6_init_27 : decode cX6_init 27 = .ok (.new 23, 3) := by decide +kernel
theorem dX6_init_30 : decode cX6_init 30 = .ok (.dup, 1) := by decide +kernel
theorem dX6_init_31 : decode cX6_init 31 = .ok (.bipush 8, 2) := by decide +kernel
theorem dX6_init_33 : decode cX6_init 33 = .ok (.invokespecial 25, 3) := by decide +kernel
theorem dX6_init_36 : decode cX6_init 36 = .ok (.putfield 28, 3) := by decide +kernel
theorem dX6_init_39 : decode cX6_init 39 = .ok (.aload_n 0, 1) := by decide +kernel
theorem dX6_init_4 : decode cX6_init 4 = .ok (.aload_n 0, 1) := by decide +kernel
theorem dX6_init_40 : decode cX6_init 40 = .ok (.new 23, 3) := by decide +kernel
theorem dX6_init_43 : decode cX6_init 43 = .ok (.dup, 1) := by decide +kernel
theorem dX6_init_44 : decode cX6_init 44 = .ok (.iconst 3, 1) := by decide +kernel
theorem dX6_init_45 : decode cX6_init 45 = .ok (.invokespecial 25, 3) := by decide +kernel
theorem dX6_init_48 : decode cX6_init 48 = .ok (.putfield 32, 3) := by decide +kernel
theorem dX6_init_5 : decode cX6_init 5 = .ok (.new 9, 3) := by decide +kernel
theorem dX6_init_51 : decode cX6_init 51 = .ok (.aload_n 0, 1) := by decide +kernel
theorem dX6_init_52 : decode cX6_init 52 = .ok (.new 35, 3) := by decide +kernel
theorem dX6_init_55 : decode cX6_init 55 = .ok (.dup, 1) := by decide +kernel
theorem dX6_init_56 : decode cX6_init 56 = .ok (.aload_n 0, 1) := by decide +kernel
theorem dX6_init_57 : decode cX6_init 57 = .ok (.getfield 12, 3) := by decide +kernel
theorem dX6_init_60 : decode cX6_init 60 = .ok (.invokespecial 37, 3) := by decide +kernel
theorem dX6_init_63 : decode cX6_init 63 = .ok (.putfield 40, 3) := by decide +kernel
theorem dX6_init_66 : decode cX6_init 66 = .ok (.aload_n 0, 1) := by decide +kernel
theorem dX6_init_67 : decode cX6_init 67 = .ok (.new 44, 3) := by decide +kernel
theorem dX6_init_70 : decode cX6_init 70 = .ok (.dup, 1) := by decide +kernel
theorem dX6_init_71 : decode cX6_init 71 = .ok (.aload_n 0, 1) := by decide +kernel
theorem dX6_init_72 : decode cX6_init 72 = .ok (.getfield 12, 3) := by decide +kernel
theorem dX6_init_75 : decode cX6_init 75 = .ok (.aload_n 0, 1) := by decide +kernel
theorem dX6_init_76 : decode cX6_init 76 = .ok (.getfield 40, 3) := by decide +kernel
theorem dX6_init_79 : decode cX6_init 79 = .ok (.invokespecial 46, 3) := by decide +kernel
theorem dX6_init_8 : decode cX6_init 8 = .ok (.dup, 1) := by decide +kernel
theorem dX6_init_82 : decode cX6_init 82 = .ok (.putfield 49, 3) := by decide +kernel
theorem dX6_init_85 : decode cX6_init 85 = .ok (.aload_n 0, 1) := by decide +kernel
theorem dX6_init_86 : decode cX6_init 86 = .ok (.iconst 0, 1) := by decide +kernel
theorem dX6_init_87 : decode cX6_init 87 = .ok (.putfield 53, 3) := by decide +kernel
theorem dX6_init_9 : decode cX6_init 9 = .ok (.invokespecial 11, 3) := by decide +kernel
theorem dX6_init_90 : decode cX6_init 90 = .ok (.aload_n 0, 1) := by decide +kernel
theorem dX6_init_91 : decode cX6_init 91 = .ok (.iconst 1, 1) := by decide +kernel
theorem dX6_init_92 : decode cX6_init 92 = .ok (.putfield 57, 3) := by decide +kernel
theorem dX6_init_95 : decode cX6_init 95 = .ok (.return_, 1) := by decide +kernel
theorem dX7_init_0 : decode cX7_init 0 = .ok (.aload_n 0, 1) := by decide +kernel
theorem dX7_init_1 : decode cX7_init 1 = .ok (.invokespecial 1, 3) := by decide +kernel
theorem dX7_init_10 : decode cX7_init 10 = .ok (.putfield 7, 3) := by decide +kernel
theorem dX7_init_101 : decode cX7_init 101 = .ok (.iload_n 1, 1) := by decide +kernel
theorem dX7_init_102 : decode cX7_init 102 = .ok (.iadd, 1) := by decide +kernel
theorem dX7_init_103 : decode cX7_init 103 = .ok (.iconst (-1), 1) := by decide +kernel
theorem dX7_init_104 : decode cX7_init 104 = .ok (.iastore, 1) := by decide +kernel
theorem dX7_init_105 : decode cX7_init 105 = .ok (.iinc 1 1, 3) := by decide +kernel
theorem dX7_init_108 : decode cX7_init 108 = .ok (.goto (-20), 3) := by decide +kernel
theorem dX7_init_111 : decode cX7_init 111 = .ok (.return_, 1) := by decide +kernel
theorem dX7_init_13 : decode cX7_init 13 = .ok (.aload_n 0, 1) := by decide +kernel
theorem dX7_init_14 : decode cX7_init 14 = .ok (.sipush 644, 3) := by decide +kernel
theorem dX7_init_17 : decode cX7_init 17 = .ok (.newarray .int, 2) := by decide +kernel
theorem dX7_init_19 : decode cX7_init 19 = .ok (.putfield 13, 3) := by decide +kernel
theorem dX7_init_22 : decode cX7_init 22 = .ok (.aload_n 0, 1) := by decide +kernel
theorem dX7_init_23 : decode cX7_init 23 = .ok (.bipush 8, 2) := by decide +kernel
theorem dX7_init_25 : decode cX7_init 25 = .ok (.newarray .int, 2) := by decide +kernel
theorem dX7_init_27 : decode cX7_init 27 = .ok (.putfield 16, 3) := by decide +kernel
theorem dX7_init_30 : decode cX7_init 30 = .ok (.aload_n 0, 1) := by decide +kernel
theorem dX7_init_31 : decode cX7_init 31 = .ok (.iconst 3, 1) := by decide +kernel
theorem dX7_init_32 : decode cX7_init 32 = .ok (.newarray .int, 2) := by decide +kernel
theorem dX7_init_34 : decode cX7_init 34 = .ok (.putfield 19, 3) := by decide +kernel
theorem dX7_init_37 : decode cX7_init 37 = .ok (.aload_n 0, 1) := by decide +kernel
theorem dX7_init_38 : decode cX7_init 38 = .ok (.sipush 5454, 3) := by decide +kernel
theorem dX7_init_4 : decode cX7_init 4 = .ok (.aload_n 0, 1) := by decide +kernel
theorem dX7_init_41 : decode cX7_init 41 = .ok (.newarray .int, 2) := by decide +kernel
theorem dX7_init_43 : decode cX7_init 43 = .ok (.putfield 22, 3) := by decide +kernel
theorem dX7_init_46 : decode cX7_init 46 = .ok (.aload_n 0, 1) := by decide +kernel
theorem dX7_init_47 : decode cX7_init 47 = .ok (.bipush 100, 2) := by decide +kernel
theorem dX7_init_49 : decode cX7_init 49 = .ok (.newarray .int, 2) := by decide +kernel
theorem dX7_init_5 : decode cX7_init 5 = .ok (.sipush 161, 3) := by decide +kernel
theorem dX7_init_51 : decode cX7_init 51 = .ok (.putfield 25, 3) := by decide +kernel
theorem dX7_init_54 : decode cX7_init 54 = .ok (.aload_n 0, 1) := by decide +kernel
theorem dX7_init_55 : decode cX7_init 55 = .ok (.bipush 100, 2) := by decide +kernel
theorem dX7_init_57 : decode cX7_init 57 = .ok (.newarray .int, 2) := by decide +kernel
theorem dX7_init_59 : decode cX7_init 59 = .ok (.putfield 28, 3) := by decide +kernel
theorem dX7_init_62 : decode cX7_init 62 = .ok (.aload_n 0, 1) := by decide +kernel
theorem dX7_init_63 : decode cX7_init 63 = .ok (.bipush 100, 2) := by decide +kernel
theorem dX7_init_65 : decode cX7_init 65 = .ok (.newarray .int, 2) := by decide +kernel
theorem dX7_init_67 : decode cX7_init 67 = .ok (.putfield 31, 3) := by decide +kernel
theorem dX7_init_70 : decode cX7_init 70 = .ok (.aload_n 0, 1) := by decide +kernel
theorem dX7_init_71 : decode cX7_init 71 = .ok (.bipush 100, 2) := by decide +kernel
theorem dX7_init_73 : decode cX7_init 73 = .ok (.newarray .int, 2) := by decide +kernel
theorem dX7_init_75 : decode cX7_init 75 = .ok (.putfield 34, 3) := by decide +kernel
theorem dX7_init_78 : decode cX7_init 78 = .ok (.aload_n 0, 1) := by decide +kernel
theorem dX7_init_79 : decode cX7_init 79 = .ok (.bipush 100, 2) := by decide +kernel
theorem dX7_init_8 : decode cX7_init 8 = .ok (.newarray .int, 2) := by decide +kernel
theorem dX7_init_81 : decode cX7_init 81 = .ok (.newarray .int, 2) := by decide +kernel
theorem dX7_init_83 : decode cX7_init 83 = .ok (.putfield 37, 3) := by decide +kernel
theorem dX7_init_86 : decode cX7_init 86 = .ok (.iconst 0, 1) := by decide +kernel
theorem dX7_init_87 : decode cX7_init 87 = .ok (.istore_n 1, 1) := by decide +kernel
theorem dX7_init_88 : decode cX7_init 88 = .ok (.iload_n 1, 1) := by decide +kernel
theorem dX7_init_89 : decode cX7_init 89 = .ok (.bipush 6, 2) := by decide +kernel
theorem dX7_init_91 : decode cX7_init 91 = .ok (.if_icmp .ge 20, 3) := by decide +kernel
theorem dX7_init_94 : decode cX7_init 94 = .ok (.aload_n 0, 1) := by decide +kernel
theorem dX7_init_95 : decode cX7_init 95 = .ok (.getfield 7, 3) := by decide +kernel
theorem dX7_init_98 : decode cX7_init 98 = .ok (.sipush 155, 3) := by decide +kernel
end
section
-- numbers: every int of the machine is iz of an integer, every long lz of one
abbrev iz (a : Int) : Int32 := Int32.ofInt a
abbrev lz (a : Int) : Int64 := Int64.ofInt a
abbrev inR (a : Int) : Prop := -2147483648 ≤ a ∧ a ≤ 2147483647
theorem iz_toInt {a : Int} (h : inR a) : (iz a).toInt = a := Int32.toInt_ofInt_of_le (by have := h.1; omega) (by have := h.2; omega)
theorem iz_lt {a b : Int} (ha : inR a) (hb : inR b) : iz a < iz b ↔ a < b := by rw [Int32.lt_iff_toInt_lt, iz_toInt ha, iz_toInt hb]
theorem iz_le {a b : Int} (ha : inR a) (hb : inR b) : iz a ≤ iz b ↔ a ≤ b := by rw [Int32.le_iff_toInt_le, iz_toInt ha, iz_toInt hb]
theorem iz_eq {a b : Int} (ha : inR a) (hb : inR b) : iz a = iz b ↔ a = b := by rw [← Int32.toInt_inj, iz_toInt ha, iz_toInt hb]
theorem iz_cl {i : Int} (h0 : 0 ≤ i) (h1 : i < 2147483648) : (iz i).toNatClampNeg = i.toNat := Int32.toNatClampNeg_ofInt_of_le (by omega) (by omega)
theorem iz_in {i : Int} {n : Nat} (h0 : 0 ≤ i) (h1 : i < (n : Int)) (hn : n < 2147483648) : vp_in (iz i) n := by
  intro h
  rcases h with h | h
  · have := (iz_lt (a := i) (b := 0) ⟨by omega, by omega⟩ ⟨by decide, by decide⟩).mp h
    omega
  · rw [iz_cl h0 (by omega)] at h
    omega
theorem iz_rem {a b : Int} (h0 : 0 ≤ a) (h1 : a ≤ 2147483647) (h2 : 0 < b) (h3 : b ≤ 2147483647) : iz a - iz a / iz b * iz b = iz (a % b) := by
  obtain ⟨x, rfl⟩ := Int.eq_ofNat_of_zero_le h0
  obtain ⟨y, rfl⟩ := Int.eq_ofNat_of_zero_le (Int.le_of_lt h2)
  have e1 : iz (x : Int) = nI x := Int32.ofInt_eq_ofNat
  have e2 : iz (y : Int) = nI y := Int32.ofInt_eq_ofNat
  have e3 : iz ((x : Int) % (y : Int)) = nI (x % y) := by rw [← Int.natCast_emod]; exact Int32.ofInt_eq_ofNat
  rw [e1, e2, e3]
  exact pk_rem (by omega) (by omega) (by omega)
theorem iz_l {a : Int} (h : inR a) : (iz a).toInt64 = lz a := by rw [← Int64.ofInt_int32ToInt, iz_toInt h]
theorem iz_i (x : Int32) : ∃ a : Int, x = iz a ∧ inR a := ⟨x.toInt, (Int32.ofInt_toInt x).symm, by
  have h1 := x.le_toInt
  have h2 := x.toInt_lt
  exact ⟨by omega, by omega⟩⟩
-- the state: what the ints, by cell and place, are
abbrev St : Type := Nat → Int → Int
def ui (f : Int → Int) (i v : Int) : Int → Int := fun j => if j = i then v else f j
def ur (σ : St) (k : Nat) (f : Int → Int) : St := fun q => if q = k then f else σ q
def up (σ : St) (k : Nat) (i v : Int) : St := ur σ k (ui (σ k) i v)
theorem ur_s (σ : St) (k : Nat) (f : Int → Int) : ur σ k f k = f := by simp [ur]
theorem ur_n (σ : St) {k q : Nat} (f : Int → Int) (h : q ≠ k) : ur σ k f q = σ q := by simp [ur, h]
theorem up_s (σ : St) (k : Nat) (i v : Int) : up σ k i v k = ui (σ k) i v := ur_s _ _ _
theorem up_n (σ : St) {k q : Nat} (i v : Int) (h : q ≠ k) : up σ k i v q = σ q := ur_n _ _ h
theorem ui_s (f : Int → Int) (i v : Int) : ui f i v i = v := by simp [ui]
theorem ui_n (f : Int → Int) {i j : Int} (v : Int) (h : j ≠ i) : ui f i v j = f j := by simp [ui, h]
-- shapes of cells: (0, n, _) an int array of n; (1, ci, codes) an object of class ci; (2, n, codes) an array of n State references. Codes: 0 int, 1 long, 2 null, r + 3 the cell r
abbrev Sh : Type := Nat × Nat × List Nat
abbrev GW : Type := va_G × ClassId × ClassId × (Nat → Nat)
abbrev gad (w : GW) : Nat → Nat := w.2.2.2
def gV (w : GW) (f : Int → Int) (i : Int) (c : Nat) : Value := match c with
  | 0 => .int (iz (f i))
  | 1 => .long (lz (f i))
  | 2 => .null
  | r + 3 => .ref (gad w r)
def gF (w : GW) (f : Int → Int) : Int → List Nat → List Value
  | _, [] => []
  | i, c :: cs => gV w f i c :: gF w f (i + 1) cs
def gO (w : GW) (c : Nat) : Option Nat := match c with
  | r + 3 => some (gad w r)
  | _ => none
def gE (w : GW) (f : Int → Int) (sh : Sh) : va_E := match sh.1 with
  | 0 => .inl (w.2.1, sh.2.1, .inl (fun j : Nat => iz (f (j : Int))))
  | 1 => .inr (sh.2.1, gF w f 0 sh.2.2)
  | _ => .inl (w.2.2.1, sh.2.1, .inr (.inr (.inr (.inr (fun j => gO w (sh.2.2.getD j 2))))))
theorem gF_at (w : GW) (f : Int → Int) (cs : List Nat) : ∀ (i : Int) (j : Nat), (gF w f i cs)[j]? = (cs[j]?).map (fun c => gV w f (i + j) c) := by
  induction cs with
  | nil => intro i j; simp [gF]
  | cons c cs ih =>
    intro i j
    cases j with
    | zero => simp [gF]
    | succ j =>
      simp only [gF, List.getElem?_cons_succ, ih]
      congr 1
      funext c
      congr 1
      omega
theorem gF_len (w : GW) (f : Int → Int) (cs : List Nat) : ∀ (i : Int), (gF w f i cs).length = cs.length := by
  induction cs with
  | nil => intro i; simp [gF]
  | cons c cs ih => intro i; simp [gF, ih]
theorem gV_ui (w : GW) (f : Int → Int) {i j : Int} (v : Int) (c : Nat) (h : j ≠ i) : gV w (ui f i v) j c = gV w f j c := by
  unfold gV
  rw [ui_n f v h]
theorem gF_set (w : GW) (f : Int → Int) (cs : List Nat) (j : Nat) (v : Int) (x : Value) (c : Nat) (hc : cs[j]? = some c) (hx : gV w (ui f j v) j c = x) : (gF w f 0 cs).set j x = gF w (ui f j v) 0 cs := by
  apply List.ext_getElem?
  intro q
  by_cases hq : q = j
  · subst hq
    have hl : q < (gF w f 0 cs).length := by rw [gF_len]; exact (List.getElem?_eq_some_iff.mp hc).1
    rw [List.getElem?_set_self hl, gF_at, hc]
    simp only [Option.map_some, Int.zero_add]
    rw [hx]
  · rw [List.getElem?_set_ne (Ne.symm hq), gF_at, gF_at]
    congr 1
    funext c
    rw [gV_ui w f v c (by omega)]
-- the world: the cells of a list of shapes
def gW (w : GW) (SL : List Sh) (σ : St) : va_W := (List.range SL.length).map (fun k => (gad w k, gE w (σ k) (SL.getD k (0, 0, []))))
theorem gW_len (w : GW) (SL : List Sh) (σ : St) : (gW w SL σ).length = SL.length := by simp [gW]
theorem gW_at {w : GW} {SL : List Sh} {σ : St} {k : Nat} {sh : Sh} (h : SL[k]? = some sh) : (gW w SL σ)[k]? = some (gad w k, gE w (σ k) sh) := by
  have hl := (List.getElem?_eq_some_iff.mp h).1
  have : SL.getD k (0, 0, []) = sh := by rw [List.getD_eq_getElem?_getD, h]; rfl
  have h2 : (SL[k]?).getD (0, 0, []) = sh := by rw [h]; rfl
  simp [gW, List.getElem?_map, List.getElem?_range hl, h2]
theorem gW_ad {w : GW} {SL : List Sh} {σ : St} {k : Nat} {q : Nat × va_E} (h : (gW w SL σ)[k]? = some q) : k < SL.length ∧ q.1 = gad w k := by
  have hl := (List.getElem?_eq_some_iff.mp h).1
  rw [gW_len] at hl
  refine ⟨hl, ?_⟩
  simp [gW, List.getElem?_map, List.getElem?_range hl] at h
  rw [← h]
theorem gW_set {w : GW} {SL : List Sh} {σ : St} {k : Nat} {sh : Sh} (h : SL[k]? = some sh) (f : Int → Int) (e : va_E) (he : e = gE w f sh) : (gW w SL σ).set k (gad w k, e) = gW w SL (ur σ k f) := by
  subst he
  have hl := (List.getElem?_eq_some_iff.mp h).1
  apply List.ext_getElem?
  intro q
  by_cases hq : q = k
  · subst hq
    rw [List.getElem?_set_self (by rw [gW_len]; exact hl), gW_at (w := w) (σ := ur σ q f) h, ur_s]
  · rw [List.getElem?_set_ne (Ne.symm hq)]
    by_cases hl2 : q < SL.length
    · obtain ⟨sh2, h2⟩ : ∃ z, SL[q]? = some z := ⟨_, List.getElem?_eq_getElem hl2⟩
      rw [gW_at (w := w) (σ := σ) h2, gW_at (w := w) (σ := ur σ k f) h2, ur_n σ f hq]
    · rw [List.getElem?_eq_none (by rw [gW_len]; omega), List.getElem?_eq_none (by rw [gW_len]; omega)]
/-- the cells that a method may change: the world's, and new ones -/
def gA (w : GW) (n sz : Nat) : Nat → Prop := fun q => (∃ k, k < n ∧ q = gad w k) ∨ sz ≤ q
abbrev gT (w : GW) : List (ClassId × FieldType) := [(w.2.1, .int), (w.2.2.1, .object "IslandGrammar$State")]
def gS (w : GW) (SL : List Sh) (σ : St) (A : Nat → Prop) (s : State) (H0 H : Heap) (locs : List Loc) : Prop :=
  va_K w.1 vwCl (gT w) s ∧ va_P w.1 vwCl (gW w SL σ) H ∧ va_D A (gW w SL σ) ∧ va_S A H0 H locs
theorem gD_eq {w : GW} {SL : List Sh} {σ σ' : St} {A : Nat → Prop} (h : va_D A (gW w SL σ)) : va_D A (gW w SL σ') := by
  have key : ∀ (k : Nat) (q : Nat × va_E), (gW w SL σ')[k]? = some q → ∃ q0 : Nat × va_E, (gW w SL σ)[k]? = some q0 ∧ q0.1 = q.1 := by
    intro k q hk
    obtain ⟨h1, h2⟩ := gW_ad hk
    refine ⟨_, gW_at (List.getElem?_eq_getElem h1), h2.symm⟩
  refine ⟨fun i j p q hi hj hpq => ?_, fun k q hk => ?_⟩
  · obtain ⟨p0, h1, h2⟩ := key i p hi
    obtain ⟨q0, h3, h4⟩ := key j q hj
    exact h.1 i j p0 q0 h1 h3 (by rw [h2, h4, hpq])
  · obtain ⟨q0, h1, h2⟩ := key k q hk
    rw [← h2]
    exact h.2 k q0 h1
theorem gA_of {w : GW} {SL : List Sh} {σ : St} {A : Nat → Prop} {H0 H : Heap} {locs : List Loc} (hD : va_D A (gW w SL σ)) (hS : va_S A H0 H locs) (hA : ∀ q, H0.size ≤ q → A q) : ∀ q, gA w SL.length H.size q → A q := by
  intro q h
  rcases h with ⟨k, hk, rfl⟩ | h
  · exact hD.2 k _ (gW_at (List.getElem?_eq_getElem hk))
  · exact hA q (Nat.le_trans hS.1 h)
-- links between nest mates, which the words' list doesn't hold
def gNl : List (String × Nat × MethodName × String) := [("IslandGrammar", 18, yX1_init, "IslandGrammar"), ("IslandGrammar$Matcher", 28, yX0_init, "IslandGrammar"), ("IslandGrammar$Matcher", 67, yX6_isDigit, "IslandGrammar"), ("IslandGrammar$Matcher", 77, yX6_isLetter, "IslandGrammar"), ("IslandGrammar$Matcher", 60, yX6_isReference, "IslandGrammar"), ("IslandGrammar$Nodes", 132, yX6_isReference, "IslandGrammar"), ("IslandGrammar$Row", 25, yX6_mix, "IslandGrammar"), ("IslandGrammar$State", 52, yX6_mix, "IslandGrammar"), ("IslandGrammar$Nodes", 90, yX6_mix, "IslandGrammar")]
def gNw (U : State) : Prop := ∀ q ∈ gNl, va_Nw (.methodLinkNest q.1 q.2.1 q.2.2.1 q.2.2.2) U
theorem gNw.warm {s U : State} (hW : s.WarmedH U.vm) (h : gNw s) : gNw U := fun q hq => va_Nw.warmM hW (h q hq)
theorem gNw.same {u U : State} (e : u.vm = U.vm) (h : gNw u) : gNw U := fun q hq => va_Nw.same rfl e (h q hq)
-- the start and the end of a method of the whole system (n cells)
def gPc (w : GW) (SL : List Sh) (σ : St) (sz : Nat) (av : List Value) : Array Value → State → Prop := va_Pc av (fun U => U.heap.size = sz ∧ va_P w.1 vwCl (gW w SL σ) U.heap ∧ va_K w.1 vwCl (gT w) U ∧ va_D (fun _ => True) (gW w SL σ) ∧ gNw U)
abbrev gB (w : GW) (SL : List Sh) (σ : St) (t : State) : Prop := va_P w.1 vwCl (gW w SL σ) t.heap
abbrev gQi (w : GW) (SL : List Sh) (sz : Nat) (post : Int → St → Prop) : Array Value → State → Outcome → State → Prop := va_Qi (fun r (u : Int × St) => r = iz u.1 ∧ post u.1 u.2) (fun u t => gB w SL u.2 t) (gA w SL.length sz)
abbrev gQl (w : GW) (SL : List Sh) (sz : Nat) (post : Int → St → Prop) : Array Value → State → Outcome → State → Prop := va_Ql (fun r (u : Int × St) => r = lz u.1 ∧ post u.1 u.2) (fun u t => gB w SL u.2 t) (gA w SL.length sz)
abbrev gQv (w : GW) (SL : List Sh) (sz : Nat) (post : St → Prop) : Array Value → State → Outcome → State → Prop := va_Qv (fun u : St => post u) (fun u t => gB w SL u t) (gA w SL.length sz)
abbrev gQr (w : GW) (SL : List Sh) (sz : Nat) (post : Nat → St → Prop) : Array Value → State → Outcome → State → Prop := va_Qr (fun u : Nat × St => post u.1 u.2) (fun u a t => a = gad w u.1 ∧ gB w SL u.2 t) (gA w SL.length sz)
def gC (p : Program) (s : State) (m : MethodId) (args : Array Value) (meth : Method) (c : Code) (cc : ByteArray) (ret : Option FieldType) (nL : Nat) (own : String) (A : Nat → Prop) : Prop :=
  p.tables.exec = Jvm.exec ∧ c.code = cc ∧ meth.sig.returnType = ret ∧ c.maxLocals = nL ∧ s.vm.findClass own = some m.cls ∧ (∀ w ∈ wsL_law, w.before args s = true) ∧ meth.locks = false ∧ gNw s ∧ (∀ q, s.heap.size ≤ q → A q)
section GR
variable {p : Program} {l : Launch} {e : Env} {R : Room} {s : State} {m : MethodId} {args : Array Value} {below : List Frame} {meth : Method} {c : Code} {H : Heap} {locs : List Loc} {cells slots : Nat} {Q : State → Prop}
variable {cc : ByteArray} {pc nL : Nat} {ls : Array Slot} {rest : List Value} {A : Nat → Prop} {H0 : Heap} {w : GW} {SL : List Sh} {σ : St}
theorem g_met {y : MethodName} {ret : Option FieldType} {rm : Room} {sz : Nat} {Qc : Array Value → State → Outcome → State → Prop} (hy : plainName y.cls = true) (av : List Value) (hln : (lg_sl av).length ≤ nL)
    (body : ∀ (p : Program) (e : Env) (s : State) (m : MethodId) (below : List Frame) (meth : Method) (c : Code) (ls : Array Slot), s.heap.size = sz → gC p s m av.toArray meth c cc ret nL y.cls (gA w SL.length sz) → lv_has ls nL (lv_args 0 av) → gS w SL σ (gA w SL.length sz) s s.heap s.heap [] → W p l e rm s m av.toArray below meth c s.heap [] 0 0 (MQ below Qc av.toArray s 0 0 (gA w SL.length sz)) (F0 m 0 ls [])) :
    Met l y (Cond.code y cc nL ret :: wsL_law) rm (gPc w SL σ sz av) Qc 0 0 (gA w SL.length sz) := by
  refine Met.ofW (cc := cc) (maxL := nL) (ret := ret) hy rfl ?_
  intro p e s m args below meth c s₁ B hml hv
  obtain ⟨rfl, hsz, hP, hK, hD0, hN⟩ := hv
  have hts := atoms_spec (ws := Cond.code y cc nL ret :: wsL_law) B.pre
  have hown : s.vm.findClass y.cls = some m.cls := findClass_of_methodNamed B.named
  have hl := lv_entry av (n := nL) hln
  rw [lg_entry_eq]
  generalize (lg_sl av ++ List.replicate (nL - (lg_sl av).length) Slot.unset).toArray = ls at hl ⊢
  refine body p e s m below meth c ls hsz ⟨B.exec, B.bytes, B.returns, hml, hown, fun w hw => hts w (List.mem_cons_of_mem _ hw), B.notSynchronized, hN, fun q h => Or.inr (by rw [← hsz]; exact h)⟩ hl ⟨hK, hP, ⟨hD0.1, fun k q hk => ?_⟩, va_S.rf⟩
  obtain ⟨h1, h2⟩ := gW_ad hk
  exact Or.inl ⟨k, h1, h2⟩
theorem g_iadd (hexec : p.tables.exec = Jvm.exec) (hb : c.code = cc) {x y : Int} (hdg : decode cc pc = .ok (.iadd, 1)) (k : W p l e R s m args below meth c H locs cells slots Q (F0 m (pc + 1) ls (.int (iz (x + y)) :: rest))) : W p l e R s m args below meth c H locs cells slots Q (F0 m pc ls (.int (iz y) :: .int (iz x) :: rest)) :=
  lv_iadd hexec hb hdg (by rw [← Int32.ofInt_add]; exact k)
theorem g_isub (hexec : p.tables.exec = Jvm.exec) (hb : c.code = cc) {x y : Int} (hdg : decode cc pc = .ok (.isub, 1)) (k : W p l e R s m args below meth c H locs cells slots Q (F0 m (pc + 1) ls (.int (iz (x - y)) :: rest))) : W p l e R s m args below meth c H locs cells slots Q (F0 m pc ls (.int (iz y) :: .int (iz x) :: rest)) :=
  lv_isub hexec hb hdg (by rw [← Int32.ofInt_sub]; exact k)
theorem g_imul (hexec : p.tables.exec = Jvm.exec) (hb : c.code = cc) {x y : Int} (hdg : decode cc pc = .ok (.imul, 1)) (k : W p l e R s m args below meth c H locs cells slots Q (F0 m (pc + 1) ls (.int (iz (x * y)) :: rest))) : W p l e R s m args below meth c H locs cells slots Q (F0 m pc ls (.int (iz y) :: .int (iz x) :: rest)) :=
  lv_imul hexec hb hdg (by rw [← Int32.ofInt_mul]; exact k)
theorem g_irem (hexec : p.tables.exec = Jvm.exec) (hb : c.code = cc) {x y : Int} (h0 : 0 ≤ x) (h1 : x ≤ 2147483647) (h2 : 0 < y) (h3 : y ≤ 2147483647) (hdg : decode cc pc = .ok (.irem, 1)) (k : W p l e R s m args below meth c H locs cells slots Q (F0 m (pc + 1) ls (.int (iz (x % y)) :: rest))) : W p l e R s m args below meth c H locs cells slots Q (F0 m pc ls (.int (iz y) :: .int (iz x) :: rest)) :=
  lv_irem hexec hb hdg (fun h => by have := (iz_eq (a := y) (b := 0) ⟨by omega, by omega⟩ ⟨by decide, by decide⟩).mp h; omega) (by rw [iz_rem h0 h1 h2 h3]; exact k)
theorem g_iinc (hexec : p.tables.exec = Jvm.exec) (hb : c.code = cc) {i k : Nat} {n x : Int} {lv lv' : List (Nat × Value)} (hdg : decode cc pc = .ok (.iinc i n, 3)) (h : lv_has ls nL lv) (hk : lv[k]? = some (i, .int (iz x))) (hn : i < nL) (hl : (i, Value.int (iz (x + n))) :: lv.filter (fun q => !(q.1 == i) && !(q.1 + 1 == i && q.2.category == 2)) = lv') (kk : ∀ ls' : Array Slot, lv_has ls' nL lv' → W p l e R s m args below meth c H locs cells slots Q (F0 m (pc + 3) ls' rest)) : W p l e R s m args below meth c H locs cells slots Q (F0 m pc ls rest) :=
  lv_iinc hexec hb hdg h hk (v := iz (x + n)) (Int32.ofInt_add x n).symm hn hl kk
theorem g_i2l (hexec : p.tables.exec = Jvm.exec) (hb : c.code = cc) {x : Int} (h : inR x) (hdg : decode cc pc = .ok (.i2l, 1)) (k : W p l e R s m args below meth c H locs cells slots Q (F0 m (pc + 1) ls (.long (lz x) :: rest))) : W p l e R s m args below meth c H locs cells slots Q (F0 m pc ls (.int (iz x) :: rest)) :=
  lv_i2l hexec hb hdg (iz_l h) k
theorem g_ladd (hexec : p.tables.exec = Jvm.exec) (hb : c.code = cc) {x y : Int} (hdg : decode cc pc = .ok (.ladd, 1)) (k : W p l e R s m args below meth c H locs cells slots Q (F0 m (pc + 1) ls (.long (lz (x + y)) :: rest))) : W p l e R s m args below meth c H locs cells slots Q (F0 m pc ls (.long (lz y) :: .long (lz x) :: rest)) :=
  lv_ladd hexec hb hdg (by rw [← Int64.ofInt_add]; exact k)
theorem g_lmul (hexec : p.tables.exec = Jvm.exec) (hb : c.code = cc) {x y : Int} (hdg : decode cc pc = .ok (.lmul, 1)) (k : W p l e R s m args below meth c H locs cells slots Q (F0 m (pc + 1) ls (.long (lz (x * y)) :: rest))) : W p l e R s m args below meth c H locs cells slots Q (F0 m pc ls (.long (lz y) :: .long (lz x) :: rest)) :=
  lv_lmul hexec hb hdg (by rw [← Int64.ofInt_mul]; exact k)

theorem g_icmp_eq (hexec : p.tables.exec = Jvm.exec) (hb : c.code = cc) {x y : Int} {off : Int} {tgt : Nat} (hx : inR x) (hy : inR y) (hdg : decode cc pc = .ok (.if_icmp .eq off, 3)) (ht : (pc : Int) + off = (tgt : Int)) (kt : x = y → W p l e R s m args below meth c H locs cells slots Q (F0 m tgt ls rest)) (kf : ¬ (x = y) → W p l e R s m args below meth c H locs cells slots Q (F0 m (pc + 3) ls rest)) : W p l e R s m args below meth c H locs cells slots Q (F0 m pc ls (.int (iz y) :: .int (iz x) :: rest)) :=
  lv_icmp_eq hexec hb hdg ht (fun h => kt ((iz_eq hx hy).mp h)) (fun h => kf (fun q => h ((iz_eq hx hy).mpr q)))
theorem g_icmp_ne (hexec : p.tables.exec = Jvm.exec) (hb : c.code = cc) {x y : Int} {off : Int} {tgt : Nat} (hx : inR x) (hy : inR y) (hdg : decode cc pc = .ok (.if_icmp .ne off, 3)) (ht : (pc : Int) + off = (tgt : Int)) (kt : ¬ x = y → W p l e R s m args below meth c H locs cells slots Q (F0 m tgt ls rest)) (kf : x = y → W p l e R s m args below meth c H locs cells slots Q (F0 m (pc + 3) ls rest)) : W p l e R s m args below meth c H locs cells slots Q (F0 m pc ls (.int (iz y) :: .int (iz x) :: rest)) :=
  lv_icmp_ne hexec hb hdg ht (fun h => kt ((not_congr (iz_eq hx hy)).mp h)) (fun h => kf ((iz_eq hx hy).mp h))
theorem g_icmp_lt (hexec : p.tables.exec = Jvm.exec) (hb : c.code = cc) {x y : Int} {off : Int} {tgt : Nat} (hx : inR x) (hy : inR y) (hdg : decode cc pc = .ok (.if_icmp .lt off, 3)) (ht : (pc : Int) + off = (tgt : Int)) (kt : x < y → W p l e R s m args below meth c H locs cells slots Q (F0 m tgt ls rest)) (kf : ¬ (x < y) → W p l e R s m args below meth c H locs cells slots Q (F0 m (pc + 3) ls rest)) : W p l e R s m args below meth c H locs cells slots Q (F0 m pc ls (.int (iz y) :: .int (iz x) :: rest)) :=
  lv_icmp_lt hexec hb hdg ht (fun h => kt ((iz_lt hx hy).mp h)) (fun h => kf (fun q => h ((iz_lt hx hy).mpr q)))
theorem g_icmp_ge (hexec : p.tables.exec = Jvm.exec) (hb : c.code = cc) {x y : Int} {off : Int} {tgt : Nat} (hx : inR x) (hy : inR y) (hdg : decode cc pc = .ok (.if_icmp .ge off, 3)) (ht : (pc : Int) + off = (tgt : Int)) (kt : y ≤ x → W p l e R s m args below meth c H locs cells slots Q (F0 m tgt ls rest)) (kf : ¬ (y ≤ x) → W p l e R s m args below meth c H locs cells slots Q (F0 m (pc + 3) ls rest)) : W p l e R s m args below meth c H locs cells slots Q (F0 m pc ls (.int (iz y) :: .int (iz x) :: rest)) :=
  lv_icmp_ge hexec hb hdg ht (fun h => kt ((iz_le hy hx).mp h)) (fun h => kf (fun q => h ((iz_le hy hx).mpr q)))
theorem g_icmp_gt (hexec : p.tables.exec = Jvm.exec) (hb : c.code = cc) {x y : Int} {off : Int} {tgt : Nat} (hx : inR x) (hy : inR y) (hdg : decode cc pc = .ok (.if_icmp .gt off, 3)) (ht : (pc : Int) + off = (tgt : Int)) (kt : y < x → W p l e R s m args below meth c H locs cells slots Q (F0 m tgt ls rest)) (kf : ¬ (y < x) → W p l e R s m args below meth c H locs cells slots Q (F0 m (pc + 3) ls rest)) : W p l e R s m args below meth c H locs cells slots Q (F0 m pc ls (.int (iz y) :: .int (iz x) :: rest)) :=
  lv_icmp_gt hexec hb hdg ht (fun h => kt ((iz_lt hy hx).mp h)) (fun h => kf (fun q => h ((iz_lt hy hx).mpr q)))
theorem g_icmp_le (hexec : p.tables.exec = Jvm.exec) (hb : c.code = cc) {x y : Int} {off : Int} {tgt : Nat} (hx : inR x) (hy : inR y) (hdg : decode cc pc = .ok (.if_icmp .le off, 3)) (ht : (pc : Int) + off = (tgt : Int)) (kt : x ≤ y → W p l e R s m args below meth c H locs cells slots Q (F0 m tgt ls rest)) (kf : ¬ (x ≤ y) → W p l e R s m args below meth c H locs cells slots Q (F0 m (pc + 3) ls rest)) : W p l e R s m args below meth c H locs cells slots Q (F0 m pc ls (.int (iz y) :: .int (iz x) :: rest)) :=
  lv_icmp_le hexec hb hdg ht (fun h => kt ((iz_le hx hy).mp h)) (fun h => kf (fun q => h ((iz_le hx hy).mpr q)))
theorem g_if_eq (hexec : p.tables.exec = Jvm.exec) (hb : c.code = cc) {x : Int} {off : Int} {tgt : Nat} (hx : inR x) (hdg : decode cc pc = .ok (.ifCond .eq off, 3)) (ht : (pc : Int) + off = (tgt : Int)) (kt : x = 0 → W p l e R s m args below meth c H locs cells slots Q (F0 m tgt ls rest)) (kf : ¬ (x = 0) → W p l e R s m args below meth c H locs cells slots Q (F0 m (pc + 3) ls rest)) : W p l e R s m args below meth c H locs cells slots Q (F0 m pc ls (.int (iz x) :: rest)) := by
  have h0 : inR (0 : Int) := ⟨by decide, by decide⟩
  exact lv_if_eq hexec hb hdg ht (fun h => kt ((iz_eq hx h0).mp h)) (fun h => kf (fun q => h ((iz_eq hx h0).mpr q)))
theorem g_if_ne (hexec : p.tables.exec = Jvm.exec) (hb : c.code = cc) {x : Int} {off : Int} {tgt : Nat} (hx : inR x) (hdg : decode cc pc = .ok (.ifCond .ne off, 3)) (ht : (pc : Int) + off = (tgt : Int)) (kt : ¬ x = 0 → W p l e R s m args below meth c H locs cells slots Q (F0 m tgt ls rest)) (kf : x = 0 → W p l e R s m args below meth c H locs cells slots Q (F0 m (pc + 3) ls rest)) : W p l e R s m args below meth c H locs cells slots Q (F0 m pc ls (.int (iz x) :: rest)) := by
  have h0 : inR (0 : Int) := ⟨by decide, by decide⟩
  exact lv_if_ne hexec hb hdg ht (fun h => kt ((not_congr (iz_eq hx h0)).mp h)) (fun h => kf ((iz_eq hx h0).mp h))
theorem g_if_lt (hexec : p.tables.exec = Jvm.exec) (hb : c.code = cc) {x : Int} {off : Int} {tgt : Nat} (hx : inR x) (hdg : decode cc pc = .ok (.ifCond .lt off, 3)) (ht : (pc : Int) + off = (tgt : Int)) (kt : x < 0 → W p l e R s m args below meth c H locs cells slots Q (F0 m tgt ls rest)) (kf : ¬ (x < 0) → W p l e R s m args below meth c H locs cells slots Q (F0 m (pc + 3) ls rest)) : W p l e R s m args below meth c H locs cells slots Q (F0 m pc ls (.int (iz x) :: rest)) := by
  have h0 : inR (0 : Int) := ⟨by decide, by decide⟩
  exact lv_if_lt hexec hb hdg ht (fun h => kt ((iz_lt hx h0).mp h)) (fun h => kf (fun q => h ((iz_lt hx h0).mpr q)))
theorem g_if_ge (hexec : p.tables.exec = Jvm.exec) (hb : c.code = cc) {x : Int} {off : Int} {tgt : Nat} (hx : inR x) (hdg : decode cc pc = .ok (.ifCond .ge off, 3)) (ht : (pc : Int) + off = (tgt : Int)) (kt : 0 ≤ x → W p l e R s m args below meth c H locs cells slots Q (F0 m tgt ls rest)) (kf : ¬ (0 ≤ x) → W p l e R s m args below meth c H locs cells slots Q (F0 m (pc + 3) ls rest)) : W p l e R s m args below meth c H locs cells slots Q (F0 m pc ls (.int (iz x) :: rest)) := by
  have h0 : inR (0 : Int) := ⟨by decide, by decide⟩
  exact lv_if_ge hexec hb hdg ht (fun h => kt ((iz_le h0 hx).mp h)) (fun h => kf (fun q => h ((iz_le h0 hx).mpr q)))
theorem g_if_gt (hexec : p.tables.exec = Jvm.exec) (hb : c.code = cc) {x : Int} {off : Int} {tgt : Nat} (hx : inR x) (hdg : decode cc pc = .ok (.ifCond .gt off, 3)) (ht : (pc : Int) + off = (tgt : Int)) (kt : 0 < x → W p l e R s m args below meth c H locs cells slots Q (F0 m tgt ls rest)) (kf : ¬ (0 < x) → W p l e R s m args below meth c H locs cells slots Q (F0 m (pc + 3) ls rest)) : W p l e R s m args below meth c H locs cells slots Q (F0 m pc ls (.int (iz x) :: rest)) := by
  have h0 : inR (0 : Int) := ⟨by decide, by decide⟩
  exact lv_if_gt hexec hb hdg ht (fun h => kt ((iz_lt h0 hx).mp h)) (fun h => kf (fun q => h ((iz_lt h0 hx).mpr q)))
theorem g_if_le (hexec : p.tables.exec = Jvm.exec) (hb : c.code = cc) {x : Int} {off : Int} {tgt : Nat} (hx : inR x) (hdg : decode cc pc = .ok (.ifCond .le off, 3)) (ht : (pc : Int) + off = (tgt : Int)) (kt : x ≤ 0 → W p l e R s m args below meth c H locs cells slots Q (F0 m tgt ls rest)) (kf : ¬ (x ≤ 0) → W p l e R s m args below meth c H locs cells slots Q (F0 m (pc + 3) ls rest)) : W p l e R s m args below meth c H locs cells slots Q (F0 m pc ls (.int (iz x) :: rest)) := by
  have h0 : inR (0 : Int) := ⟨by decide, by decide⟩
  exact lv_if_le hexec hb hdg ht (fun h => kt ((iz_le hx h0).mp h)) (fun h => kf (fun q => h ((iz_le hx h0).mpr q)))
theorem gG_int {C : String} {T : u_T} {N ci : Nat} {cs : List Nat} {k j : Nat} (hsh : SL[k]? = some (1, ci, cs)) (hj : cs[j]? = some 0) : (gF w (σ k) 0 cs)[j]? = some (.int (iz (σ k j))) := by
  rw [gF_at, hj]
  simp [gV]
theorem g_getI (hexec : p.tables.exec = Jvm.exec) (hb : c.code = cc) (hts : ∀ w ∈ wsL_law, w.before args s = true) {own C : String} (hown : s.vm.findClass own = some m.cls) {T : u_T} {N ci index : Nat} {cs : List Nat} {k : Nat} (j : Nat) (hin : ∀ w ∈ u_ws C T N, w ∈ wsL_law) (G : gS w SL σ A s H0 H locs) (hsh : SL[k]? = some (1, ci, cs)) (hc : vwCl[ci]? = some (C, T, N)) (hk : j < N) (hj : cs[j]? = some 0) (hlink : Cond.fieldLink own index (T j).1 (T j).2.1 (T j).2.2.1 ∈ wsL_law) (hdg : decode cc pc = .ok (.getfield index, 3))
    (kk : W p l e R s m args below meth c H locs cells slots Q (F0 m (pc + 3) ls (.int (iz (σ k j)) :: rest))) : W p l e R s m args below meth c H locs cells slots Q (F0 m pc ls (.ref (gad w k) :: rest)) :=
  va_get hexec hb hts hin hown G.1 G.2.1 k (gW_at hsh) hc j hk (hts _ hlink) (fun _ h => h) (show (gF w (σ k) 0 cs)[j]? = some (.int (iz (σ k j))) by rw [gF_at, hj]; simp [gV]) hdg kk
theorem g_getL (hexec : p.tables.exec = Jvm.exec) (hb : c.code = cc) (hts : ∀ w ∈ wsL_law, w.before args s = true) {own C : String} (hown : s.vm.findClass own = some m.cls) {T : u_T} {N ci index : Nat} {cs : List Nat} {k : Nat} (j : Nat) (hin : ∀ w ∈ u_ws C T N, w ∈ wsL_law) (G : gS w SL σ A s H0 H locs) (hsh : SL[k]? = some (1, ci, cs)) (hc : vwCl[ci]? = some (C, T, N)) (hk : j < N) (hj : cs[j]? = some 1) (hlink : Cond.fieldLink own index (T j).1 (T j).2.1 (T j).2.2.1 ∈ wsL_law) (hdg : decode cc pc = .ok (.getfield index, 3))
    (kk : W p l e R s m args below meth c H locs cells slots Q (F0 m (pc + 3) ls (.long (lz (σ k j)) :: rest))) : W p l e R s m args below meth c H locs cells slots Q (F0 m pc ls (.ref (gad w k) :: rest)) :=
  va_get hexec hb hts hin hown G.1 G.2.1 k (gW_at hsh) hc j hk (hts _ hlink) (fun _ h => h) (show (gF w (σ k) 0 cs)[j]? = some (.long (lz (σ k j))) by rw [gF_at, hj]; simp [gV]) hdg kk
theorem g_getR (hexec : p.tables.exec = Jvm.exec) (hb : c.code = cc) (hts : ∀ w ∈ wsL_law, w.before args s = true) {own C : String} (hown : s.vm.findClass own = some m.cls) {T : u_T} {N ci index : Nat} {cs : List Nat} {k : Nat} (j r : Nat) (hin : ∀ w ∈ u_ws C T N, w ∈ wsL_law) (G : gS w SL σ A s H0 H locs) (hsh : SL[k]? = some (1, ci, cs)) (hc : vwCl[ci]? = some (C, T, N)) (hk : j < N) (hj : cs[j]? = some (r + 3)) (hlink : Cond.fieldLink own index (T j).1 (T j).2.1 (T j).2.2.1 ∈ wsL_law) (hdg : decode cc pc = .ok (.getfield index, 3))
    (kk : W p l e R s m args below meth c H locs cells slots Q (F0 m (pc + 3) ls (.ref (gad w r) :: rest))) : W p l e R s m args below meth c H locs cells slots Q (F0 m pc ls (.ref (gad w k) :: rest)) :=
  va_get hexec hb hts hin hown G.1 G.2.1 k (gW_at hsh) hc j hk (hts _ hlink) (fun _ h => h) (show (gF w (σ k) 0 cs)[j]? = some (.ref (gad w r)) by rw [gF_at, hj]; simp [gV]) hdg kk
theorem gS.upd (G : gS w SL σ A s H0 H locs) {k : Nat} {sh : Sh} {f : Int → Int} {e : va_E} {H1 : Heap} {locs1 : List Loc} (hsh : SL[k]? = some sh) (he : e = gE w f sh) (hP : va_P w.1 vwCl ((gW w SL σ).set k (gad w k, e)) H1) (hS : va_S A H0 H1 locs1) : gS w SL (ur σ k f) A s H0 H1 locs1 :=
  ⟨G.1, by rw [gW_set hsh f e he] at hP; exact hP, gD_eq G.2.2.1, hS⟩
theorem g_putI (hexec : p.tables.exec = Jvm.exec) (hb : c.code = cc) (hts : ∀ w ∈ wsL_law, w.before args s = true) {own C : String} (hown : s.vm.findClass own = some m.cls) {T : u_T} {N ci index : Nat} {cs : List Nat} {k : Nat} (j : Nat) (hin : ∀ w ∈ u_ws C T N, w ∈ wsL_law) (ty0 : Nat → FieldType) (hty : ∀ k, k < N → parseFieldDescriptor (T k).2.2.1 = some (ty0 k)) (hnm : ∀ a, a < N → ∀ b, b < N → a ≠ b → (T a).2.1 ≠ (T b).2.1) (G : gS w SL σ A s H0 H locs) (hsh : SL[k]? = some (1, ci, cs)) (hc : vwCl[ci]? = some (C, T, N)) (hk : j < N) (hj : cs[j]? = some 0) (hlink : Cond.fieldLink own index (T j).1 (T j).2.1 (T j).2.2.1 ∈ wsL_law) (hfin : (T j).2.2.2 = false) {x : Int} (hn : narrow (ty0 j) (.int (iz x)) = .int (iz x)) (hfit : fits (ty0 j) (.int (iz x)) = true) (hdg : decode cc pc = .ok (.putfield index, 3))
    (kk : ∀ (σ1 : St), σ1 = up σ k j x → ∀ (H1 : Heap) (locs1 : List Loc), gS w SL σ1 A s H0 H1 locs1 → W p l e R s m args below meth c H1 locs1 cells slots Q (F0 m (pc + 3) ls rest)) : W p l e R s m args below meth c H locs cells slots Q (F0 m pc ls (.int (iz x) :: .ref (gad w k) :: rest)) :=
  va_put hexec hb hts hin ty0 hty hnm hown G.1 G.2.1 G.2.2.1 G.2.2.2 k (gW_at hsh) hc j hk (hts _ hlink) (fun _ h => h) hfin (hty j hk) hn hfit (by rw [gF_len]; exact (List.getElem?_eq_some_iff.mp hj).1) hdg (fun H1 locs1 hP hD hS => kk _ rfl H1 locs1 (G.upd hsh (by
    show Sum.inr (ci, (gF w (σ k) 0 cs).set j (.int (iz x))) = Sum.inr (ci, gF w (ui (σ k) j x) 0 cs)
    rw [gF_set w (σ k) cs j x _ 0 hj (by simp [gV, ui_s])]) hP hS))
theorem g_putL (hexec : p.tables.exec = Jvm.exec) (hb : c.code = cc) (hts : ∀ w ∈ wsL_law, w.before args s = true) {own C : String} (hown : s.vm.findClass own = some m.cls) {T : u_T} {N ci index : Nat} {cs : List Nat} {k : Nat} (j : Nat) (hin : ∀ w ∈ u_ws C T N, w ∈ wsL_law) (ty0 : Nat → FieldType) (hty : ∀ k, k < N → parseFieldDescriptor (T k).2.2.1 = some (ty0 k)) (hnm : ∀ a, a < N → ∀ b, b < N → a ≠ b → (T a).2.1 ≠ (T b).2.1) (G : gS w SL σ A s H0 H locs) (hsh : SL[k]? = some (1, ci, cs)) (hc : vwCl[ci]? = some (C, T, N)) (hk : j < N) (hj : cs[j]? = some 1) (hlink : Cond.fieldLink own index (T j).1 (T j).2.1 (T j).2.2.1 ∈ wsL_law) (hfin : (T j).2.2.2 = false) {x : Int} (hn : narrow (ty0 j) (.long (lz x)) = .long (lz x)) (hfit : fits (ty0 j) (.long (lz x)) = true) (hdg : decode cc pc = .ok (.putfield index, 3))
    (kk : ∀ (σ1 : St), σ1 = up σ k j x → ∀ (H1 : Heap) (locs1 : List Loc), gS w SL σ1 A s H0 H1 locs1 → W p l e R s m args below meth c H1 locs1 cells slots Q (F0 m (pc + 3) ls rest)) : W p l e R s m args below meth c H locs cells slots Q (F0 m pc ls (.long (lz x) :: .ref (gad w k) :: rest)) :=
  va_put hexec hb hts hin ty0 hty hnm hown G.1 G.2.1 G.2.2.1 G.2.2.2 k (gW_at hsh) hc j hk (hts _ hlink) (fun _ h => h) hfin (hty j hk) hn hfit (by rw [gF_len]; exact (List.getElem?_eq_some_iff.mp hj).1) hdg (fun H1 locs1 hP hD hS => kk _ rfl H1 locs1 (G.upd hsh (by
    show Sum.inr (ci, (gF w (σ k) 0 cs).set j (.long (lz x))) = Sum.inr (ci, gF w (ui (σ k) j x) 0 cs)
    rw [gF_set w (σ k) cs j x _ 1 hj (by simp [gV, ui_s])]) hP hS))
theorem g_alen (hexec : p.tables.exec = Jvm.exec) (hb : c.code = cc) (G : gS w SL σ A s H0 H locs) {k n : Nat} {cs : List Nat} (hsh : SL[k]? = some (0, n, cs)) (hdg : decode cc pc = .ok (.arraylength, 1)) (kk : W p l e R s m args below meth c H locs cells slots Q (F0 m (pc + 1) ls (.int (iz (n : Int)) :: rest))) : W p l e R s m args below meth c H locs cells slots Q (F0 m pc ls (.ref (gad w k) :: rest)) :=
  va_alen hexec hb G.1 G.2.1 k 0 (gW_at hsh) rfl Int32.ofInt_eq_ofNat.symm hdg kk
theorem g_alenR (hexec : p.tables.exec = Jvm.exec) (hb : c.code = cc) (G : gS w SL σ A s H0 H locs) {k n : Nat} {cs : List Nat} (hsh : SL[k]? = some (2, n, cs)) (hdg : decode cc pc = .ok (.arraylength, 1)) (kk : W p l e R s m args below meth c H locs cells slots Q (F0 m (pc + 1) ls (.int (iz (n : Int)) :: rest))) : W p l e R s m args below meth c H locs cells slots Q (F0 m pc ls (.ref (gad w k) :: rest)) :=
  va_alen hexec hb G.1 G.2.1 k 1 (gW_at hsh) rfl Int32.ofInt_eq_ofNat.symm hdg kk
theorem g_ald (hexec : p.tables.exec = Jvm.exec) (hb : c.code = cc) (G : gS w SL σ A s H0 H locs) {k n : Nat} {cs : List Nat} (hsh : SL[k]? = some (0, n, cs)) {i : Int} (h0 : 0 ≤ i) (h1 : i < (n : Int)) (hn : n < 2147483648) (hdg : decode cc pc = .ok (.iaload, 1)) (kk : W p l e R s m args below meth c H locs cells slots Q (F0 m (pc + 1) ls (.int (iz (σ k i)) :: rest))) : W p l e R s m args below meth c H locs cells slots Q (F0 m pc ls (.int (iz i) :: .ref (gad w k) :: rest)) :=
  va_iald hexec hb G.1 G.2.1 k 0 (gW_at hsh) rfl (iz_in h0 h1 hn) hdg (by
    show W p l e R s m args below meth c H locs cells slots Q (F0 m (pc + 1) ls (.int (iz (σ k (((iz i).toNatClampNeg : Nat) : Int))) :: rest))
    rw [iz_cl h0 (by omega), Int.toNat_of_nonneg h0]
    exact kk)
theorem g_ast (hexec : p.tables.exec = Jvm.exec) (hb : c.code = cc) (G : gS w SL σ A s H0 H locs) {k n : Nat} {cs : List Nat} (hsh : SL[k]? = some (0, n, cs)) {i x : Int} (h0 : 0 ≤ i) (h1 : i < (n : Int)) (hn : n < 2147483648) (hdg : decode cc pc = .ok (.iastore, 1))
    (kk : ∀ (σ1 : St), σ1 = up σ k i x → ∀ (H1 : Heap) (locs1 : List Loc), gS w SL σ1 A s H0 H1 locs1 → W p l e R s m args below meth c H1 locs1 cells slots Q (F0 m (pc + 1) ls rest)) : W p l e R s m args below meth c H locs cells slots Q (F0 m pc ls (.int (iz x) :: .int (iz i) :: .ref (gad w k) :: rest)) :=
  va_iast hexec hb G.1 G.2.1 G.2.2.1 G.2.2.2 k 0 (gW_at hsh) rfl (iz_in h0 h1 hn) hdg (fun H1 locs1 hP hD hS => kk _ rfl H1 locs1 (G.upd hsh (by
    show Sum.inl (w.2.1, n, Sum.inl (upd (fun j : Nat => iz (σ k (j : Int))) (iz i).toNatClampNeg (iz x))) = Sum.inl (w.2.1, n, Sum.inl (fun j : Nat => iz (ui (σ k) i x (j : Int))))
    refine congrArg (fun z : Nat → Int32 => (Sum.inl (w.2.1, n, Sum.inl z) : va_E)) (funext fun j => ?_)
    unfold upd ui
    rw [iz_cl h0 (by omega)]
    by_cases hj : j = i.toNat
    · rw [if_pos hj, if_pos (by omega)]
    · rw [if_neg hj, if_neg (by omega)]) hP hS))
theorem g_iret (hexec : p.tables.exec = Jvm.exec) (hb : c.code = cc) (hr : meth.sig.returnType = some .int) (hlk : meth.locks = false) {sz : Nat} (hz : s.heap.size = sz) (G : gS w SL σ (gA w SL.length sz) s s.heap H locs) {post : Int → St → Prop} {x : Int} (hq : post x σ) (hdg : decode cc pc = .ok (.ireturn, 1)) : W p l e R s m args below meth c H locs cells slots (MQ below (gQi w SL sz post) args s cells slots (gA w SL.length sz)) (F0 m pc ls [.int (iz x)]) :=
  W.iret hexec hb hr (fun t ht hW => ⟨⟨iz x, (x, σ), rfl, ⟨rfl, hq⟩, by show va_P _ _ _ t.heap; rw [ht]; exact G.2.1⟩, G.2.2.2.F ht⟩) G.2.2.2.2.2 hdg hlk
theorem g_zret (hexec : p.tables.exec = Jvm.exec) (hb : c.code = cc) (hr : meth.sig.returnType = some .boolean) (hlk : meth.locks = false) {sz : Nat} (hz : s.heap.size = sz) (G : gS w SL σ (gA w SL.length sz) s s.heap H locs) {post : Int → St → Prop} {x : Int} (hx : x = 0 ∨ x = 1) (hq : post x σ) (hdg : decode cc pc = .ok (.ireturn, 1)) : W p l e R s m args below meth c H locs cells slots (MQ below (gQi w SL sz post) args s cells slots (gA w SL.length sz)) (F0 m pc ls [.int (iz x)]) :=
  W.zret hexec hb hr (by rcases hx with rfl | rfl <;> rfl) (fun t ht hW => ⟨⟨iz x, (x, σ), rfl, ⟨rfl, hq⟩, by show va_P _ _ _ t.heap; rw [ht]; exact G.2.1⟩, G.2.2.2.F ht⟩) G.2.2.2.2.2 hdg hlk
theorem g_lret (hexec : p.tables.exec = Jvm.exec) (hb : c.code = cc) (hr : meth.sig.returnType = some .long) (hlk : meth.locks = false) {sz : Nat} (hz : s.heap.size = sz) (G : gS w SL σ (gA w SL.length sz) s s.heap H locs) {post : Int → St → Prop} {x : Int} (hq : post x σ) (hdg : decode cc pc = .ok (.lreturn, 1)) : W p l e R s m args below meth c H locs cells slots (MQ below (gQl w SL sz post) args s cells slots (gA w SL.length sz)) (F0 m pc ls [.long (lz x)]) :=
  W.lret hexec hb hr (fun t ht hW => ⟨⟨lz x, (x, σ), rfl, ⟨rfl, hq⟩, by show va_P _ _ _ t.heap; rw [ht]; exact G.2.1⟩, G.2.2.2.F ht⟩) G.2.2.2.2.2 hdg hlk
theorem g_vret (hexec : p.tables.exec = Jvm.exec) (hb : c.code = cc) (hr : meth.sig.returnType = none) (hlk : meth.locks = false) {sz : Nat} (hz : s.heap.size = sz) (G : gS w SL σ (gA w SL.length sz) s s.heap H locs) {post : St → Prop} (hq : post σ) (hdg : decode cc pc = .ok (.return_, 1)) : W p l e R s m args below meth c H locs cells slots (MQ below (gQv w SL sz post) args s cells slots (gA w SL.length sz)) (F0 m pc ls []) :=
  W.vret hexec hb hr (fun t ht hW => ⟨⟨σ, rfl, hq, by show va_P _ _ _ t.heap; rw [ht]; exact G.2.1⟩, G.2.2.2.F ht⟩) G.2.2.2.2.2 hdg hlk
theorem g_rret (hexec : p.tables.exec = Jvm.exec) (hb : c.code = cc) {rt : FieldType} (hr : meth.sig.returnType = some rt) (hrt : ∃ n, rt = .object n) (hlk : meth.locks = false) {sz : Nat} (hz : s.heap.size = sz) (G : gS w SL σ (gA w SL.length sz) s s.heap H locs) {post : Nat → St → Prop} {k : Nat} (hq : post k σ) (hdg : decode cc pc = .ok (.areturn, 1)) : W p l e R s m args below meth c H locs cells slots (MQ below (gQr w SL sz post) args s cells slots (gA w SL.length sz)) (F0 m pc ls [.ref (gad w k)]) :=
  W.aret hexec hb hr (Or.inl hrt) (Or.inr ⟨_, rfl⟩) (fun t ht hW => ⟨⟨(k, σ), gad w k, rfl, hq, rfl, by show va_P _ _ _ t.heap; rw [ht]; exact G.2.1⟩, G.2.2.2.F ht⟩) G.2.2.2.2.2 hdg hlk
theorem g_aald (hexec : p.tables.exec = Jvm.exec) (hb : c.code = cc) (G : gS w SL σ A s H0 H locs) {k n : Nat} {cs : List Nat} (hsh : SL[k]? = some (2, n, cs)) {i : Int} (h0 : 0 ≤ i) (h1 : i < (n : Int)) (hn : n < 2147483648) (hdg : decode cc pc = .ok (.aaload, 1)) (r : Nat) (hr : cs.getD i.toNat 2 = r + 3) (kk : W p l e R s m args below meth c H locs cells slots Q (F0 m (pc + 1) ls (.ref (gad w r) :: rest))) : W p l e R s m args below meth c H locs cells slots Q (F0 m pc ls (.int (iz i) :: .ref (gad w k) :: rest)) :=
  va_aldq hexec hb G.1 G.2.1 k 1 (gW_at hsh) rfl (iz_in h0 h1 hn) hdg (by
    show W p l e R s m args below meth c H locs cells slots Q (F0 m (pc + 1) ls (va_rf (gO w (cs.getD (iz i).toNatClampNeg 2)) :: rest))
    rw [iz_cl h0 (by omega), hr]
    exact kk)
theorem g_min (hexec : p.tables.exec = Jvm.exec) (hb : c.code = cc) (hml : c.maxLocals = ls.size) (hts : ∀ w ∈ wsL_law, w.before args s = true) {own : String} {index : Nat} (hown : s.vm.findClass own = some m.cls) (hlink : Cond.methodLink own index Lib.Math.min.name ∈ wsL_law) (hstat : Cond.static Lib.Math.min.name ∈ wsL_law) (hini : Cond.initialized "java/lang/Math" ∈ wsL_law) (hcode : Cond.code Lib.Math.min.name Lib.Math.min.code 2 (some .int) ∈ wsL_law)
    (hframes : 1 ≤ R.frames) (hlocals : (rest.map fun v => v.category).sum + 13 ≤ R.locals) (hc : cells ≤ R.cells) (hs : slots ≤ R.slots) {x y : Int} (hx : inR x) (hy : inR y) (hdg : decode cc pc = .ok (.invokestatic index, 3)) (kk : ∀ r : Int, r = min x y → W p l e R s m args below meth c H locs cells slots Q (F0 m (pc + 3) ls (.int (iz r) :: rest))) : W p l e R s m args below meth c H locs cells slots Q (F0 m pc ls (.int (iz y) :: .int (iz x) :: rest)) :=
  va_mmin hexec hb hml hown (hts _ hlink) (hts _ hstat) (hts _ hini) (hts _ hcode) hframes hlocals hc hs hdg (by
    have h := kk (min x y) rfl
    by_cases q : y < x
    · rw [if_pos ((iz_lt hy hx).mpr q)]
      rw [show min x y = y by omega] at h
      exact h
    · rw [if_neg (fun z => q ((iz_lt hy hx).mp z))]
      rw [show min x y = x by omega] at h
      exact h)
theorem g_max (hexec : p.tables.exec = Jvm.exec) (hb : c.code = cc) (hml : c.maxLocals = ls.size) (hts : ∀ w ∈ wsL_law, w.before args s = true) {own : String} {index : Nat} (hown : s.vm.findClass own = some m.cls) (hlink : Cond.methodLink own index Lib.Math.max.name ∈ wsL_law) (hstat : Cond.static Lib.Math.max.name ∈ wsL_law) (hini : Cond.initialized "java/lang/Math" ∈ wsL_law) (hcode : Cond.code Lib.Math.max.name Lib.Math.max.code 2 (some .int) ∈ wsL_law)
    (hframes : 1 ≤ R.frames) (hlocals : (rest.map fun v => v.category).sum + 13 ≤ R.locals) (hc : cells ≤ R.cells) (hs : slots ≤ R.slots) {x y : Int} (hx : inR x) (hy : inR y) (hdg : decode cc pc = .ok (.invokestatic index, 3)) (kk : ∀ r : Int, r = max x y → W p l e R s m args below meth c H locs cells slots Q (F0 m (pc + 3) ls (.int (iz r) :: rest))) : W p l e R s m args below meth c H locs cells slots Q (F0 m pc ls (.int (iz y) :: .int (iz x) :: rest)) :=
  va_mmax hexec hb hml hown (hts _ hlink) (hts _ hstat) (hts _ hini) (hts _ hcode) hframes hlocals hc hs hdg (by
    have h := kk (max x y) rfl
    by_cases q : x < y
    · rw [if_pos ((iz_lt hx hy).mpr q)]
      rw [show max x y = y by omega] at h
      exact h
    · rw [if_neg (fun z => q ((iz_lt hx hy).mp z))]
      rw [show max x y = x by omega] at h
      exact h)
end GR
-- calls
theorem gGood {own C : String} {idx nL : Nat} {y : MethodName} {cc : ByteArray} {ret : Option FieldType} (h1 : Cond.methodLink own idx y ∈ wsL_law) (h2 : Cond.instanceMethod y ∈ wsL_law) (h3 : Cond.selects C y y ∈ wsL_law) (h4 : Cond.initialized C ∈ wsL_law) (h5 : Cond.code y cc nL ret ∈ wsL_law) : GoodIn wsL_law (wsV own idx C y (Cond.code y cc nL ret :: wsL_law)) := by
  have all : ∀ w ∈ wsL_law, (w.onTables && w.keeps) = true ∨ ∃ ty, w = .arrayClass ty := fun w h => good_of_word (List.all_eq_true.mp gWAll w h)
  intro w hw
  have hm : w ∈ wsL_law := by
    unfold wsV at hw
    simp only [List.cons_append, List.nil_append, List.mem_cons] at hw
    rcases hw with rfl | rfl | rfl | rfl | rfl | hw <;> assumption
  exact ⟨hm, all w hm⟩
theorem gGoodS {own : String} {idx nL : Nat} {y : MethodName} {cc : ByteArray} {ret : Option FieldType} (h1 : Cond.methodLink own idx y ∈ wsL_law) (h2 : Cond.static y ∈ wsL_law) (h4 : Cond.initialized y.cls ∈ wsL_law) (h5 : Cond.code y cc nL ret ∈ wsL_law) : GoodIn wsL_law (va_wsS own idx y (Cond.code y cc nL ret :: wsL_law)) := by
  have all : ∀ w ∈ wsL_law, (w.onTables && w.keeps) = true ∨ ∃ ty, w = .arrayClass ty := fun w h => good_of_word (List.all_eq_true.mp gWAll w h)
  intro w hw
  have hm : w ∈ wsL_law := by
    unfold va_wsS at hw
    simp only [List.cons_append, List.nil_append, List.mem_cons] at hw
    rcases hw with rfl | rfl | rfl | rfl | hw <;> assumption
  exact ⟨hm, all w hm⟩
theorem gGoodC {nL : Nat} {y : MethodName} {cc : ByteArray} {ret : Option FieldType} (h5 : Cond.code y cc nL ret ∈ wsL_law) : GoodIn wsL_law (Cond.code y cc nL ret :: wsL_law) := by
  have all : ∀ w ∈ wsL_law, (w.onTables && w.keeps) = true ∨ ∃ ty, w = .arrayClass ty := fun w h => good_of_word (List.all_eq_true.mp gWAll w h)
  intro w hw
  have hm : w ∈ wsL_law := by
    rcases List.mem_cons.mp hw with rfl | hw <;> assumption
  exact ⟨hm, all w hm⟩
section GCALL
variable {p : Program} {l : Launch} {e : Env} {R : Room} {s : State} {m : MethodId} {args : Array Value} {below : List Frame} {meth : Method} {c : Code} {H : Heap} {locs : List Loc} {cells slots : Nat} {Q : State → Prop}
variable {cc : ByteArray} {pc nL : Nat} {ls : Array Slot} {rest st : List Value} {A : Nat → Prop} {H0 : Heap} {w : GW} {SL : List Sh} {σ : St}
theorem gPc_blind {sz : Nat} {av : List Value} : FrameBlind (gPc w SL σ sz av) := fun a U g mk q => by
  obtain ⟨q0, q1, qP, qK, qD, qN⟩ := q
  exact ⟨q0, q1, qP, va_K.moved (u := U) (U := U.calling g mk a) (Vm.Alike.refl U.vm) qK, qD, gNw.same rfl qN⟩
theorem gPc_at {av : List Value} (G : gS w SL σ A s H0 H locs) (hN : gNw s) : ∀ U : State, U.heap = H → s.WarmedH U.vm → gPc w SL σ H.size av av.toArray U := fun U hU hW =>
  ⟨rfl, by rw [hU], by rw [hU]; exact G.2.1, va_K.moved hW.alike G.1, G.2.2.1.weaken (fun _ _ _ _ => trivial), hN.warm hW⟩
theorem gPreV {k ci N : Nat} {cs : List Nat} {C : String} {T : u_T} {As : List Value} (G : gS w SL σ A s H0 H locs) (hN : gNw s) (hsh : SL[k]? = some (1, ci, cs)) (hc : vwCl[ci]? = some (C, T, N)) : PreV s H C (gad w k) (gPc w SL σ H.size (.ref (gad w k) :: As)) As :=
  ⟨gPc_blind, va_recv (q := (C, T, N)) G.1 G.2.1 hc (q0 := k) (gW_at hsh), gPc_at G hN⟩
theorem gPreS {As : List Value} (G : gS w SL σ A s H0 H locs) (hN : gNw s) : PreS s H (gPc w SL σ H.size As) As := ⟨gPc_blind, gPc_at G hN⟩
theorem gBack (G : gS w SL σ A s H0 H locs) {σ1 : St} {t : State} {H1 : Heap} {locs1 : List Loc} (ht : t.heap = H1) (hB : gB w SL σ1 t) (hS : va_S A H0 H1 locs1) : gS w SL σ1 A s H0 H1 locs1 :=
  ⟨G.1, by rw [← ht]; exact hB, gD_eq G.2.2.1, hS⟩
theorem gIn (G : gS w SL σ A s H0 H locs) (hA : ∀ q, H0.size ≤ q → A q) : ∀ q, gA w SL.length H.size q → A q := gA_of G.2.2.1 G.2.2.2 hA
theorem g_doneI {n : Nat} {own : String} {a : Array Value} {post : Int → St → Prop} (G : gS w SL σ A s H0 H locs) (hA : ∀ q, H0.size ≤ q → A q) (hr : va_Run p l e R s m args below meth c H locs cells slots 0 0 (F0 m pc ls st) rest (gQi w SL H.size post a) (gA w SL.length H.size)) (kk : ∀ (r : Int) (σ1 : St) (H1 : Heap) (locs1 : List Loc), post r σ1 → gS w SL σ1 A s H0 H1 locs1 → W p l e R s m args below meth c H1 locs1 cells slots Q (F0 m (pc + 3) ls (.int (iz r) :: rest))) : W p l e R s m args below meth c H locs cells slots Q (F0 m pc ls st) :=
  va_calli hr G.2.2.2 (fun q _ h => gIn G hA q h) (gIn G hA) (fun r u t H1 locs1 ht hvm hw hB hz1 hk1 hS => by
    obtain ⟨h1, h2⟩ := hw
    subst h1
    exact kk u.1 u.2 H1 locs1 h2 (gBack G ht hB hS))
theorem g_doneL {n : Nat} {own : String} {a : Array Value} {post : Int → St → Prop} (G : gS w SL σ A s H0 H locs) (hA : ∀ q, H0.size ≤ q → A q) (hr : va_Run p l e R s m args below meth c H locs cells slots 0 0 (F0 m pc ls st) rest (gQl w SL H.size post a) (gA w SL.length H.size)) (kk : ∀ (r : Int) (σ1 : St) (H1 : Heap) (locs1 : List Loc), post r σ1 → gS w SL σ1 A s H0 H1 locs1 → W p l e R s m args below meth c H1 locs1 cells slots Q (F0 m (pc + 3) ls (.long (lz r) :: rest))) : W p l e R s m args below meth c H locs cells slots Q (F0 m pc ls st) :=
  va_calll hr G.2.2.2 (fun q _ h => gIn G hA q h) (gIn G hA) (fun r u t H1 locs1 ht hvm hw hB hz1 hk1 hS => by
    obtain ⟨h1, h2⟩ := hw
    subst h1
    exact kk u.1 u.2 H1 locs1 h2 (gBack G ht hB hS))
theorem g_doneV {n : Nat} {own : String} {a : Array Value} {post : St → Prop} (G : gS w SL σ A s H0 H locs) (hA : ∀ q, H0.size ≤ q → A q) (hr : va_Run p l e R s m args below meth c H locs cells slots 0 0 (F0 m pc ls st) rest (gQv w SL H.size post a) (gA w SL.length H.size)) (kk : ∀ (σ1 : St) (H1 : Heap) (locs1 : List Loc), post σ1 → gS w SL σ1 A s H0 H1 locs1 → W p l e R s m args below meth c H1 locs1 cells slots Q (F0 m (pc + 3) ls rest)) : W p l e R s m args below meth c H locs cells slots Q (F0 m pc ls st) :=
  va_callv hr G.2.2.2 (fun q _ h => gIn G hA q h) (gIn G hA) (fun u t H1 locs1 ht hvm hw hB hz1 hk1 hS => kk u H1 locs1 hw (gBack G ht hB hS))
theorem g_doneR {n : Nat} {own : String} {a : Array Value} {post : Nat → St → Prop} (G : gS w SL σ A s H0 H locs) (hA : ∀ q, H0.size ≤ q → A q) (hr : va_Run p l e R s m args below meth c H locs cells slots 0 0 (F0 m pc ls st) rest (gQr w SL H.size post a) (gA w SL.length H.size)) (kk : ∀ (r : Nat) (σ1 : St) (H1 : Heap) (locs1 : List Loc), post r σ1 → gS w SL σ1 A s H0 H1 locs1 → W p l e R s m args below meth c H1 locs1 cells slots Q (F0 m (pc + 3) ls (.ref (gad w r) :: rest))) : W p l e R s m args below meth c H locs cells slots Q (F0 m pc ls st) :=
  va_callr hr G.2.2.2 (fun q _ h => gIn G hA q h) (gIn G hA) (fun u a t H1 locs1 ht hvm hw hB hz1 hk1 hS => by
    obtain ⟨h1, h2⟩ := hB
    subst h1
    exact kk u.1 u.2 H1 locs1 hw (gBack G ht h2 hS))
theorem g_callVi (hexec : p.tables.exec = Jvm.exec) (hb : c.code = cc) (hml : c.maxLocals = nL) (hts : ∀ w ∈ wsL_law, w.before args s = true) {own : String} (hown : s.vm.findClass own = some m.cls) (hN : gNw s) (hA : ∀ q, H0.size ≤ q → A q) (G : gS w SL σ A s H0 H locs) {y : MethodName} {bytes : ByteArray} {maxL n index : Nat} {ret : Option FieldType} {rm : Room} (As : List Value) {post : Int → St → Prop} {k ci N : Nat} {cs : List Nat} {C : String} {T : u_T} (hM : Met l y (Cond.code y bytes maxL ret :: wsL_law) rm (gPc w SL σ H.size (.ref (gad w k) :: As)) (gQi w SL H.size post) 0 0 (gA w SL.length H.size)) (hsh : SL[k]? = some (1, ci, cs)) (hc : vwCl[ci]? = some (C, T, N)) (h1 : Cond.methodLink own index y ∈ wsL_law) (h2 : Cond.instanceMethod y ∈ wsL_law) (h3 : Cond.selects C y y ∈ wsL_law) (h4 : Cond.initialized C ∈ wsL_law) (h5 : Cond.code y bytes maxL ret ∈ wsL_law) (hd : y.cls = C ∧ y.cls ≠ "java/lang/invoke/MethodHandle" ∧ y.cls ≠ "java/lang/invoke/VarHandle" ∧ (parseMethodDescriptor y.desc).map (fun d => d.parameters.length) = some n) (hR : rm.cells = 0 ∧ rm.slots = 0 ∧ rm.frames + 1 ≤ R.frames ∧ 8 + (maxL + 11) + rm.locals ≤ R.locals) (hn : As.length = n) (hsz : ls.size = nL) (hst : (rest.map fun v => v.category).sum ≤ 8) (hstk : st = As.reverse ++ .ref (gad w k) :: rest) (hdg : decode cc pc = .ok (.invokevirtual index, 3)) (hf : cells ≤ R.cells ∧ slots ≤ R.slots)
    (kk : ∀ (r : Int) (σ1 : St) (H1 : Heap) (locs1 : List Loc), post r σ1 → gS w SL σ1 A s H0 H1 locs1 → W p l e R s m args below meth c H1 locs1 cells slots Q (F0 m (pc + 3) ls (.int (iz r) :: rest))) : W p l e R s m args below meth c H locs cells slots Q (F0 m pc ls st) :=
  g_doneI (n := n) (own := own) G hA (va_runV (As := As) (rest := rest) ⟨hexec, hb, hml, hown, hts⟩ hM (cwV n hts (gGood h1 h2 h3 h4 h5) rfl hR.1 hR.2.1 hd ⟨hR.2.2.1, hR.2.2.2⟩) (gPreV G hN hsh hc) rfl hn hsz hstk (lv_room hst) hdg ⟨hf.1, hf.2⟩) kk
theorem g_callVl (hexec : p.tables.exec = Jvm.exec) (hb : c.code = cc) (hml : c.maxLocals = nL) (hts : ∀ w ∈ wsL_law, w.before args s = true) {own : String} (hown : s.vm.findClass own = some m.cls) (hN : gNw s) (hA : ∀ q, H0.size ≤ q → A q) (G : gS w SL σ A s H0 H locs) {y : MethodName} {bytes : ByteArray} {maxL n index : Nat} {ret : Option FieldType} {rm : Room} (As : List Value) {post : Int → St → Prop} {k ci N : Nat} {cs : List Nat} {C : String} {T : u_T} (hM : Met l y (Cond.code y bytes maxL ret :: wsL_law) rm (gPc w SL σ H.size (.ref (gad w k) :: As)) (gQl w SL H.size post) 0 0 (gA w SL.length H.size)) (hsh : SL[k]? = some (1, ci, cs)) (hc : vwCl[ci]? = some (C, T, N)) (h1 : Cond.methodLink own index y ∈ wsL_law) (h2 : Cond.instanceMethod y ∈ wsL_law) (h3 : Cond.selects C y y ∈ wsL_law) (h4 : Cond.initialized C ∈ wsL_law) (h5 : Cond.code y bytes maxL ret ∈ wsL_law) (hd : y.cls = C ∧ y.cls ≠ "java/lang/invoke/MethodHandle" ∧ y.cls ≠ "java/lang/invoke/VarHandle" ∧ (parseMethodDescriptor y.desc).map (fun d => d.parameters.length) = some n) (hR : rm.cells = 0 ∧ rm.slots = 0 ∧ rm.frames + 1 ≤ R.frames ∧ 8 + (maxL + 11) + rm.locals ≤ R.locals) (hn : As.length = n) (hsz : ls.size = nL) (hst : (rest.map fun v => v.category).sum ≤ 8) (hstk : st = As.reverse ++ .ref (gad w k) :: rest) (hdg : decode cc pc = .ok (.invokevirtual index, 3)) (hf : cells ≤ R.cells ∧ slots ≤ R.slots)
    (kk : ∀ (r : Int) (σ1 : St) (H1 : Heap) (locs1 : List Loc), post r σ1 → gS w SL σ1 A s H0 H1 locs1 → W p l e R s m args below meth c H1 locs1 cells slots Q (F0 m (pc + 3) ls (.long (lz r) :: rest))) : W p l e R s m args below meth c H locs cells slots Q (F0 m pc ls st) :=
  g_doneL (n := n) (own := own) G hA (va_runV (As := As) (rest := rest) ⟨hexec, hb, hml, hown, hts⟩ hM (cwV n hts (gGood h1 h2 h3 h4 h5) rfl hR.1 hR.2.1 hd ⟨hR.2.2.1, hR.2.2.2⟩) (gPreV G hN hsh hc) rfl hn hsz hstk (lv_room hst) hdg ⟨hf.1, hf.2⟩) kk
theorem g_callVv (hexec : p.tables.exec = Jvm.exec) (hb : c.code = cc) (hml : c.maxLocals = nL) (hts : ∀ w ∈ wsL_law, w.before args s = true) {own : String} (hown : s.vm.findClass own = some m.cls) (hN : gNw s) (hA : ∀ q, H0.size ≤ q → A q) (G : gS w SL σ A s H0 H locs) {y : MethodName} {bytes : ByteArray} {maxL n index : Nat} {ret : Option FieldType} {rm : Room} (As : List Value) {post : St → Prop} {k ci N : Nat} {cs : List Nat} {C : String} {T : u_T} (hM : Met l y (Cond.code y bytes maxL ret :: wsL_law) rm (gPc w SL σ H.size (.ref (gad w k) :: As)) (gQv w SL H.size post) 0 0 (gA w SL.length H.size)) (hsh : SL[k]? = some (1, ci, cs)) (hc : vwCl[ci]? = some (C, T, N)) (h1 : Cond.methodLink own index y ∈ wsL_law) (h2 : Cond.instanceMethod y ∈ wsL_law) (h3 : Cond.selects C y y ∈ wsL_law) (h4 : Cond.initialized C ∈ wsL_law) (h5 : Cond.code y bytes maxL ret ∈ wsL_law) (hd : y.cls = C ∧ y.cls ≠ "java/lang/invoke/MethodHandle" ∧ y.cls ≠ "java/lang/invoke/VarHandle" ∧ (parseMethodDescriptor y.desc).map (fun d => d.parameters.length) = some n) (hR : rm.cells = 0 ∧ rm.slots = 0 ∧ rm.frames + 1 ≤ R.frames ∧ 8 + (maxL + 11) + rm.locals ≤ R.locals) (hn : As.length = n) (hsz : ls.size = nL) (hst : (rest.map fun v => v.category).sum ≤ 8) (hstk : st = As.reverse ++ .ref (gad w k) :: rest) (hdg : decode cc pc = .ok (.invokevirtual index, 3)) (hf : cells ≤ R.cells ∧ slots ≤ R.slots)
    (kk : ∀ (σ1 : St) (H1 : Heap) (locs1 : List Loc), post σ1 → gS w SL σ1 A s H0 H1 locs1 → W p l e R s m args below meth c H1 locs1 cells slots Q (F0 m (pc + 3) ls (rest))) : W p l e R s m args below meth c H locs cells slots Q (F0 m pc ls st) :=
  g_doneV (n := n) (own := own) G hA (va_runV (As := As) (rest := rest) ⟨hexec, hb, hml, hown, hts⟩ hM (cwV n hts (gGood h1 h2 h3 h4 h5) rfl hR.1 hR.2.1 hd ⟨hR.2.2.1, hR.2.2.2⟩) (gPreV G hN hsh hc) rfl hn hsz hstk (lv_room hst) hdg ⟨hf.1, hf.2⟩) kk
theorem g_callVr (hexec : p.tables.exec = Jvm.exec) (hb : c.code = cc) (hml : c.maxLocals = nL) (hts : ∀ w ∈ wsL_law, w.before args s = true) {own : String} (hown : s.vm.findClass own = some m.cls) (hN : gNw s) (hA : ∀ q, H0.size ≤ q → A q) (G : gS w SL σ A s H0 H locs) {y : MethodName} {bytes : ByteArray} {maxL n index : Nat} {ret : Option FieldType} {rm : Room} (As : List Value) {post : Nat → St → Prop} {k ci N : Nat} {cs : List Nat} {C : String} {T : u_T} (hM : Met l y (Cond.code y bytes maxL ret :: wsL_law) rm (gPc w SL σ H.size (.ref (gad w k) :: As)) (gQr w SL H.size post) 0 0 (gA w SL.length H.size)) (hsh : SL[k]? = some (1, ci, cs)) (hc : vwCl[ci]? = some (C, T, N)) (h1 : Cond.methodLink own index y ∈ wsL_law) (h2 : Cond.instanceMethod y ∈ wsL_law) (h3 : Cond.selects C y y ∈ wsL_law) (h4 : Cond.initialized C ∈ wsL_law) (h5 : Cond.code y bytes maxL ret ∈ wsL_law) (hd : y.cls = C ∧ y.cls ≠ "java/lang/invoke/MethodHandle" ∧ y.cls ≠ "java/lang/invoke/VarHandle" ∧ (parseMethodDescriptor y.desc).map (fun d => d.parameters.length) = some n) (hR : rm.cells = 0 ∧ rm.slots = 0 ∧ rm.frames + 1 ≤ R.frames ∧ 8 + (maxL + 11) + rm.locals ≤ R.locals) (hn : As.length = n) (hsz : ls.size = nL) (hst : (rest.map fun v => v.category).sum ≤ 8) (hstk : st = As.reverse ++ .ref (gad w k) :: rest) (hdg : decode cc pc = .ok (.invokevirtual index, 3)) (hf : cells ≤ R.cells ∧ slots ≤ R.slots)
    (kk : ∀ (r : Nat) (σ1 : St) (H1 : Heap) (locs1 : List Loc), post r σ1 → gS w SL σ1 A s H0 H1 locs1 → W p l e R s m args below meth c H1 locs1 cells slots Q (F0 m (pc + 3) ls (.ref (gad w r) :: rest))) : W p l e R s m args below meth c H locs cells slots Q (F0 m pc ls st) :=
  g_doneR (n := n) (own := own) G hA (va_runV (As := As) (rest := rest) ⟨hexec, hb, hml, hown, hts⟩ hM (cwV n hts (gGood h1 h2 h3 h4 h5) rfl hR.1 hR.2.1 hd ⟨hR.2.2.1, hR.2.2.2⟩) (gPreV G hN hsh hc) rfl hn hsz hstk (lv_room hst) hdg ⟨hf.1, hf.2⟩) kk
theorem g_callSi (hexec : p.tables.exec = Jvm.exec) (hb : c.code = cc) (hml : c.maxLocals = nL) (hts : ∀ w ∈ wsL_law, w.before args s = true) {own : String} (hown : s.vm.findClass own = some m.cls) (hN : gNw s) (hA : ∀ q, H0.size ≤ q → A q) (G : gS w SL σ A s H0 H locs) {y : MethodName} {bytes : ByteArray} {maxL n index : Nat} {ret : Option FieldType} {rm : Room} (As : List Value) {post : Int → St → Prop} (hM : Met l y (Cond.code y bytes maxL ret :: wsL_law) rm (gPc w SL σ H.size As) (gQi w SL H.size post) 0 0 (gA w SL.length H.size)) (h1 : Cond.methodLink own index y ∈ wsL_law) (h2 : Cond.static y ∈ wsL_law) (h4 : Cond.initialized y.cls ∈ wsL_law) (h5 : Cond.code y bytes maxL ret ∈ wsL_law) (hd : y.cls ≠ "java/lang/invoke/MethodHandle" ∧ y.cls ≠ "java/lang/invoke/VarHandle" ∧ (parseMethodDescriptor y.desc).map (fun d => d.parameters.length) = some n) (hR : rm.cells = 0 ∧ rm.slots = 0 ∧ rm.frames + 1 ≤ R.frames ∧ 8 + (maxL + 11) + rm.locals ≤ R.locals) (hn : As.length = n) (hsz : ls.size = nL) (hst : (rest.map fun v => v.category).sum ≤ 8) (hstk : st = As.reverse ++ rest) (hdg : decode cc pc = .ok (.invokestatic index, 3)) (hf : cells ≤ R.cells ∧ slots ≤ R.slots)
    (kk : ∀ (r : Int) (σ1 : St) (H1 : Heap) (locs1 : List Loc), post r σ1 → gS w SL σ1 A s H0 H1 locs1 → W p l e R s m args below meth c H1 locs1 cells slots Q (F0 m (pc + 3) ls (.int (iz r) :: rest))) : W p l e R s m args below meth c H locs cells slots Q (F0 m pc ls st) :=
  g_doneI (n := n) (own := own) G hA (va_runS (As := As) (rest := rest) ⟨hexec, hb, hml, hown, hts⟩ hM (va_cwS n hts (gGoodS h1 h2 h4 h5) rfl hR.1 hR.2.1 hd ⟨hR.2.2.1, hR.2.2.2⟩) (gPreS G hN) rfl hn hsz hstk (lv_room hst) hdg ⟨hf.1, hf.2⟩) kk
theorem g_callSl (hexec : p.tables.exec = Jvm.exec) (hb : c.code = cc) (hml : c.maxLocals = nL) (hts : ∀ w ∈ wsL_law, w.before args s = true) {own : String} (hown : s.vm.findClass own = some m.cls) (hN : gNw s) (hA : ∀ q, H0.size ≤ q → A q) (G : gS w SL σ A s H0 H locs) {y : MethodName} {bytes : ByteArray} {maxL n index : Nat} {ret : Option FieldType} {rm : Room} (As : List Value) {post : Int → St → Prop} (hM : Met l y (Cond.code y bytes maxL ret :: wsL_law) rm (gPc w SL σ H.size As) (gQl w SL H.size post) 0 0 (gA w SL.length H.size)) (h1 : Cond.methodLink own index y ∈ wsL_law) (h2 : Cond.static y ∈ wsL_law) (h4 : Cond.initialized y.cls ∈ wsL_law) (h5 : Cond.code y bytes maxL ret ∈ wsL_law) (hd : y.cls ≠ "java/lang/invoke/MethodHandle" ∧ y.cls ≠ "java/lang/invoke/VarHandle" ∧ (parseMethodDescriptor y.desc).map (fun d => d.parameters.length) = some n) (hR : rm.cells = 0 ∧ rm.slots = 0 ∧ rm.frames + 1 ≤ R.frames ∧ 8 + (maxL + 11) + rm.locals ≤ R.locals) (hn : As.length = n) (hsz : ls.size = nL) (hst : (rest.map fun v => v.category).sum ≤ 8) (hstk : st = As.reverse ++ rest) (hdg : decode cc pc = .ok (.invokestatic index, 3)) (hf : cells ≤ R.cells ∧ slots ≤ R.slots)
    (kk : ∀ (r : Int) (σ1 : St) (H1 : Heap) (locs1 : List Loc), post r σ1 → gS w SL σ1 A s H0 H1 locs1 → W p l e R s m args below meth c H1 locs1 cells slots Q (F0 m (pc + 3) ls (.long (lz r) :: rest))) : W p l e R s m args below meth c H locs cells slots Q (F0 m pc ls st) :=
  g_doneL (n := n) (own := own) G hA (va_runS (As := As) (rest := rest) ⟨hexec, hb, hml, hown, hts⟩ hM (va_cwS n hts (gGoodS h1 h2 h4 h5) rfl hR.1 hR.2.1 hd ⟨hR.2.2.1, hR.2.2.2⟩) (gPreS G hN) rfl hn hsz hstk (lv_room hst) hdg ⟨hf.1, hf.2⟩) kk
theorem g_callNi (hexec : p.tables.exec = Jvm.exec) (hb : c.code = cc) (hml : c.maxLocals = nL) (hts : ∀ w ∈ wsL_law, w.before args s = true) {own : String} (hown : s.vm.findClass own = some m.cls) (hN : gNw s) (hA : ∀ q, H0.size ≤ q → A q) (G : gS w SL σ A s H0 H locs) {y : MethodName} {bytes : ByteArray} {maxL n index : Nat} {ret : Option FieldType} {rm : Room} (As : List Value) {post : Int → St → Prop} {host : String} (hM : Met l y (Cond.code y bytes maxL ret :: wsL_law) rm (gPc w SL σ H.size As) (gQi w SL H.size post) 0 0 (gA w SL.length H.size)) (h1 : (own, index, y, host) ∈ gNl) (h2 : Cond.static y ∈ wsL_law) (h4 : Cond.initialized y.cls ∈ wsL_law) (h5 : Cond.code y bytes maxL ret ∈ wsL_law) (hd : y.cls ≠ "java/lang/invoke/MethodHandle" ∧ y.cls ≠ "java/lang/invoke/VarHandle" ∧ (parseMethodDescriptor y.desc).map (fun d => d.parameters.length) = some n) (hR : rm.cells = 0 ∧ rm.slots = 0 ∧ rm.frames + 1 ≤ R.frames ∧ 8 + (maxL + 11) + rm.locals ≤ R.locals) (hn : As.length = n) (hsz : ls.size = nL) (hst : (rest.map fun v => v.category).sum ≤ 8) (hstk : st = As.reverse ++ rest) (hdg : decode cc pc = .ok (.invokestatic index, 3)) (hf : cells ≤ R.cells ∧ slots ≤ R.slots)
    (kk : ∀ (r : Int) (σ1 : St) (H1 : Heap) (locs1 : List Loc), post r σ1 → gS w SL σ1 A s H0 H1 locs1 → W p l e R s m args below meth c H1 locs1 cells slots Q (F0 m (pc + 3) ls (.int (iz r) :: rest))) : W p l e R s m args below meth c H locs cells slots Q (F0 m pc ls st) :=
  g_doneI (n := n) (own := own) G hA (va_runSN (As := As) (rest := rest) ⟨hexec, hb, hml, hown, hts⟩ hM ⟨va_cnB n hts (gGoodC h5) rfl hR.1 hR.2.1 (hN _ h1) (hts _ h4) hd ⟨hR.2.2.1, hR.2.2.2⟩, hts _ h2, trivial⟩ (gPreS G hN) rfl hn hsz hstk (lv_room hst) hdg ⟨hf.1, hf.2⟩) kk
theorem g_callNl (hexec : p.tables.exec = Jvm.exec) (hb : c.code = cc) (hml : c.maxLocals = nL) (hts : ∀ w ∈ wsL_law, w.before args s = true) {own : String} (hown : s.vm.findClass own = some m.cls) (hN : gNw s) (hA : ∀ q, H0.size ≤ q → A q) (G : gS w SL σ A s H0 H locs) {y : MethodName} {bytes : ByteArray} {maxL n index : Nat} {ret : Option FieldType} {rm : Room} (As : List Value) {post : Int → St → Prop} {host : String} (hM : Met l y (Cond.code y bytes maxL ret :: wsL_law) rm (gPc w SL σ H.size As) (gQl w SL H.size post) 0 0 (gA w SL.length H.size)) (h1 : (own, index, y, host) ∈ gNl) (h2 : Cond.static y ∈ wsL_law) (h4 : Cond.initialized y.cls ∈ wsL_law) (h5 : Cond.code y bytes maxL ret ∈ wsL_law) (hd : y.cls ≠ "java/lang/invoke/MethodHandle" ∧ y.cls ≠ "java/lang/invoke/VarHandle" ∧ (parseMethodDescriptor y.desc).map (fun d => d.parameters.length) = some n) (hR : rm.cells = 0 ∧ rm.slots = 0 ∧ rm.frames + 1 ≤ R.frames ∧ 8 + (maxL + 11) + rm.locals ≤ R.locals) (hn : As.length = n) (hsz : ls.size = nL) (hst : (rest.map fun v => v.category).sum ≤ 8) (hstk : st = As.reverse ++ rest) (hdg : decode cc pc = .ok (.invokestatic index, 3)) (hf : cells ≤ R.cells ∧ slots ≤ R.slots)
    (kk : ∀ (r : Int) (σ1 : St) (H1 : Heap) (locs1 : List Loc), post r σ1 → gS w SL σ1 A s H0 H1 locs1 → W p l e R s m args below meth c H1 locs1 cells slots Q (F0 m (pc + 3) ls (.long (lz r) :: rest))) : W p l e R s m args below meth c H locs cells slots Q (F0 m pc ls st) :=
  g_doneL (n := n) (own := own) G hA (va_runSN (As := As) (rest := rest) ⟨hexec, hb, hml, hown, hts⟩ hM ⟨va_cnB n hts (gGoodC h5) rfl hR.1 hR.2.1 (hN _ h1) (hts _ h4) hd ⟨hR.2.2.1, hR.2.2.2⟩, hts _ h2, trivial⟩ (gPreS G hN) rfl hn hsz hstk (lv_room hst) hdg ⟨hf.1, hf.2⟩) kk
end GCALL
end
section
def gSL : List Sh := [(1, 6, [4, 13, 51, 53, 55, 64, 0, 0]), (1, 5, [5, 7, 9, 11, 0]), (1, 4, [6]), (0, 100, []), (1, 4, [8]), (0, 6, []), (1, 4, [10]), (0, 48, []), (1, 4, [12]), (0, 6, []), (1, 1, [14, 0, 0]), (2, 4, [15, 24, 33, 42]), (1, 5, [16, 18, 20, 22, 0]), (1, 4, [17]), (0, 100, []), (1, 4, [19]), (0, 6, []), (1, 4, [21]), (0, 48, []), (1, 4, [23]), (0, 6, []), (1, 5, [25, 27, 29, 31, 0]), (1, 4, [26]), (0, 100, []), (1, 4, [28]), (0, 6, []), (1, 4, [30]), (0, 48, []), (1, 4, [32]), (0, 6, []), (1, 5, [34, 36, 38, 40, 0]), (1, 4, [35]), (0, 100, []), (1, 4, [37]), (0, 6, []), (1, 4, [39]), (0, 48, []), (1, 4, [41]), (0, 6, []), (1, 5, [43, 45, 47, 49, 0]), (1, 4, [44]), (0, 100, []), (1, 4, [46]), (0, 6, []), (1, 4, [48]), (0, 48, []), (1, 4, [50]), (0, 6, []), (1, 4, [52]), (0, 8, []), (1, 4, [54]), (0, 3, []), (1, 2, [4, 56, 58, 60, 62]), (1, 4, [57]), (0, 101, []), (1, 4, [59]), (0, 101, []), (1, 4, [61]), (0, 101, []), (1, 0, [63]), (0, 5454, []), (1, 3, [4, 55, 65, 67, 69, 71, 73, 75, 77, 79, 81, 0, 0, 0, 0, 0]), (1, 4, [66]), (0, 100, []), (1, 4, [68]), (0, 100, []), (1, 4, [70]), (0, 100, []), (1, 4, [72]), (0, 100, []), (1, 4, [74]), (0, 100, []), (1, 4, [76]), (0, 100, []), (1, 4, [78]), (0, 100, []), (1, 4, [80]), (0, 100, []), (1, 4, [82]), (0, 100, []), (1, 7, [84, 85, 0, 86, 0, 87, 88, 89, 90, 91, 92, 93, 0, 0, 0, 0, 1]), (0, 161, []), (0, 644, []), (0, 8, []), (0, 3, []), (0, 5454, []), (0, 100, []), (0, 100, []), (0, 100, []), (0, 100, []), (0, 100, [])]
theorem sh_0 : gSL[0]? = some (1, 6, [4, 13, 51, 53, 55, 64, 0, 0]) := rfl
theorem sh_1 : gSL[1]? = some (1, 5, [5, 7, 9, 11, 0]) := rfl
theorem sh_2 : gSL[2]? = some (1, 4, [6]) := rfl
theorem sh_3 : gSL[3]? = some (0, 100, []) := rfl
theorem sh_4 : gSL[4]? = some (1, 4, [8]) := rfl
theorem sh_5 : gSL[5]? = some (0, 6, []) := rfl
theorem sh_6 : gSL[6]? = some (1, 4, [10]) := rfl
theorem sh_7 : gSL[7]? = some (0, 48, []) := rfl
theorem sh_8 : gSL[8]? = some (1, 4, [12]) := rfl
theorem sh_9 : gSL[9]? = some (0, 6, []) := rfl
theorem sh_10 : gSL[10]? = some (1, 1, [14, 0, 0]) := rfl
theorem sh_11 : gSL[11]? = some (2, 4, [15, 24, 33, 42]) := rfl
theorem sh_12 : gSL[12]? = some (1, 5, [16, 18, 20, 22, 0]) := rfl
theorem sh_13 : gSL[13]? = some (1, 4, [17]) := rfl
theorem sh_14 : gSL[14]? = some (0, 100, []) := rfl
theorem sh_15 : gSL[15]? = some (1, 4, [19]) := rfl
theorem sh_16 : gSL[16]? = some (0, 6, []) := rfl
theorem sh_17 : gSL[17]? = some (1, 4, [21]) := rfl
theorem sh_18 : gSL[18]? = some (0, 48, []) := rfl
theorem sh_19 : gSL[19]? = some (1, 4, [23]) := rfl
theorem sh_20 : gSL[20]? = some (0, 6, []) := rfl
theorem sh_21 : gSL[21]? = some (1, 5, [25, 27, 29, 31, 0]) := rfl
theorem sh_22 : gSL[22]? = some (1, 4, [26]) := rfl
theorem sh_23 : gSL[23]? = some (0, 100, []) := rfl
theorem sh_24 : gSL[24]? = some (1, 4, [28]) := rfl
theorem sh_25 : gSL[25]? = some (0, 6, []) := rfl
theorem sh_26 : gSL[26]? = some (1, 4, [30]) := rfl
theorem sh_27 : gSL[27]? = some (0, 48, []) := rfl
theorem sh_28 : gSL[28]? = some (1, 4, [32]) := rfl
theorem sh_29 : gSL[29]? = some (0, 6, []) := rfl
theorem sh_30 : gSL[30]? = some (1, 5, [34, 36, 38, 40, 0]) := rfl
theorem sh_31 : gSL[31]? = some (1, 4, [35]) := rfl
theorem sh_32 : gSL[32]? = some (0, 100, []) := rfl
theorem sh_33 : gSL[33]? = some (1, 4, [37]) := rfl
theorem sh_34 : gSL[34]? = some (0, 6, []) := rfl
theorem sh_35 : gSL[35]? = some (1, 4, [39]) := rfl
theorem sh_36 : gSL[36]? = some (0, 48, []) := rfl
theorem sh_37 : gSL[37]? = some (1, 4, [41]) := rfl
theorem sh_38 : gSL[38]? = some (0, 6, []) := rfl
theorem sh_39 : gSL[39]? = some (1, 5, [43, 45, 47, 49, 0]) := rfl
theorem sh_40 : gSL[40]? = some (1, 4, [44]) := rfl
theorem sh_41 : gSL[41]? = some (0, 100, []) := rfl
theorem sh_42 : gSL[42]? = some (1, 4, [46]) := rfl
theorem sh_43 : gSL[43]? = some (0, 6, []) := rfl
theorem sh_44 : gSL[44]? = some (1, 4, [48]) := rfl
theorem sh_45 : gSL[45]? = some (0, 48, []) := rfl
theorem sh_46 : gSL[46]? = some (1, 4, [50]) := rfl
theorem sh_47 : gSL[47]? = some (0, 6, []) := rfl
theorem sh_48 : gSL[48]? = some (1, 4, [52]) := rfl
theorem sh_49 : gSL[49]? = some (0, 8, []) := rfl
theorem sh_50 : gSL[50]? = some (1, 4, [54]) := rfl
theorem sh_51 : gSL[51]? = some (0, 3, []) := rfl
theorem sh_52 : gSL[52]? = some (1, 2, [4, 56, 58, 60, 62]) := rfl
theorem sh_53 : gSL[53]? = some (1, 4, [57]) := rfl
theorem sh_54 : gSL[54]? = some (0, 101, []) := rfl
theorem sh_55 : gSL[55]? = some (1, 4, [59]) := rfl
theorem sh_56 : gSL[56]? = some (0, 101, []) := rfl
theorem sh_57 : gSL[57]? = some (1, 4, [61]) := rfl
theorem sh_58 : gSL[58]? = some (0, 101, []) := rfl
theorem sh_59 : gSL[59]? = some (1, 0, [63]) := rfl
theorem sh_60 : gSL[60]? = some (0, 5454, []) := rfl
theorem sh_61 : gSL[61]? = some (1, 3, [4, 55, 65, 67, 69, 71, 73, 75, 77, 79, 81, 0, 0, 0, 0, 0]) := rfl
theorem sh_62 : gSL[62]? = some (1, 4, [66]) := rfl
theorem sh_63 : gSL[63]? = some (0, 100, []) := rfl
theorem sh_64 : gSL[64]? = some (1, 4, [68]) := rfl
theorem sh_65 : gSL[65]? = some (0, 100, []) := rfl
theorem sh_66 : gSL[66]? = some (1, 4, [70]) := rfl
theorem sh_67 : gSL[67]? = some (0, 100, []) := rfl
theorem sh_68 : gSL[68]? = some (1, 4, [72]) := rfl
theorem sh_69 : gSL[69]? = some (0, 100, []) := rfl
theorem sh_70 : gSL[70]? = some (1, 4, [74]) := rfl
theorem sh_71 : gSL[71]? = some (0, 100, []) := rfl
theorem sh_72 : gSL[72]? = some (1, 4, [76]) := rfl
theorem sh_73 : gSL[73]? = some (0, 100, []) := rfl
theorem sh_74 : gSL[74]? = some (1, 4, [78]) := rfl
theorem sh_75 : gSL[75]? = some (0, 100, []) := rfl
theorem sh_76 : gSL[76]? = some (1, 4, [80]) := rfl
theorem sh_77 : gSL[77]? = some (0, 100, []) := rfl
theorem sh_78 : gSL[78]? = some (1, 4, [82]) := rfl
theorem sh_79 : gSL[79]? = some (0, 100, []) := rfl
theorem sh_80 : gSL[80]? = some (1, 7, [84, 85, 0, 86, 0, 87, 88, 89, 90, 91, 92, 93, 0, 0, 0, 0, 1]) := rfl
theorem sh_81 : gSL[81]? = some (0, 161, []) := rfl
theorem sh_82 : gSL[82]? = some (0, 644, []) := rfl
theorem sh_83 : gSL[83]? = some (0, 8, []) := rfl
theorem sh_84 : gSL[84]? = some (0, 3, []) := rfl
theorem sh_85 : gSL[85]? = some (0, 5454, []) := rfl
theorem sh_86 : gSL[86]? = some (0, 100, []) := rfl
theorem sh_87 : gSL[87]? = some (0, 100, []) := rfl
theorem sh_88 : gSL[88]? = some (0, 100, []) := rfl
theorem sh_89 : gSL[89]? = some (0, 100, []) := rfl
theorem sh_90 : gSL[90]? = some (0, 100, []) := rfl
def isRow (k n : Nat) : Prop := gSL[k]? = some (1, 4, [k + 1 + 3]) ∧ gSL[k + 1]? = some (0, n, [])
def isSt (b : Nat) : Prop := gSL[b]? = some (1, 5, [b + 1 + 3, b + 3 + 3, b + 5 + 3, b + 7 + 3, 0]) ∧ isRow (b + 1) 100 ∧ isRow (b + 3) 6 ∧ isRow (b + 5) 48 ∧ isRow (b + 7) 6
theorem gSL_small : ∀ q ∈ gSL, q.2.1 < 2147483648 := by
  have h : gSL.all (fun q => decide (q.2.1 < 2147483648)) = true := by decide +kernel
  intro q hq
  exact of_decide_eq_true (List.all_eq_true.mp h q hq)
theorem isRow_lt {k n : Nat} (h : isRow k n) : n < 2147483648 := gSL_small _ (List.mem_of_getElem? h.2)
theorem st_1 : isSt 1 := ⟨rfl, ⟨rfl, rfl⟩, ⟨rfl, rfl⟩, ⟨rfl, rfl⟩, ⟨rfl, rfl⟩⟩
theorem st_12 : isSt 12 := ⟨rfl, ⟨rfl, rfl⟩, ⟨rfl, rfl⟩, ⟨rfl, rfl⟩, ⟨rfl, rfl⟩⟩
theorem st_21 : isSt 21 := ⟨rfl, ⟨rfl, rfl⟩, ⟨rfl, rfl⟩, ⟨rfl, rfl⟩, ⟨rfl, rfl⟩⟩
theorem st_30 : isSt 30 := ⟨rfl, ⟨rfl, rfl⟩, ⟨rfl, rfl⟩, ⟨rfl, rfl⟩, ⟨rfl, rfl⟩⟩
theorem st_39 : isSt 39 := ⟨rfl, ⟨rfl, rfl⟩, ⟨rfl, rfl⟩, ⟨rfl, rfl⟩, ⟨rfl, rfl⟩⟩
theorem ring_at {i : Int} (h0 : 0 ≤ i) (h1 : i < 4) : ([15, 24, 33, 42] : List Nat).getD i.toNat 2 = (12 + 9 * i.toNat) + 3 := by
  obtain ⟨j, rfl⟩ := Int.eq_ofNat_of_zero_le h0
  have : j < 4 := by omega
  rcases (show j = 0 ∨ j = 1 ∨ j = 2 ∨ j = 3 by omega) with rfl | rfl | rfl | rfl <;> rfl
end
section
def pre_X4_fill (k nn : Nat) (x1 : Int) (σ : St) : Prop := True
def eff_X4_fill (k nn : Nat) (x1 : Int) (σ : St) : St := ur σ (k + 1) (fun j => if 0 ≤ j ∧ j < (nn : Int) then x1 else σ (k + 1) j)
abbrev post_X4_fill (k nn : Nat) (x1 : Int) (σ : St) (σ' : St) : Prop := σ' = eff_X4_fill k nn x1 σ
def L_X4_fill_2 (k nn : Nat) (Q : St → Prop) (y1 : Int) : Nat → Int → St → Prop
  | 0, _, _ => False
  | n + 1, y2, σ => (inR y2 ∧ (inR (nn : Int) ∧ (((nn : Int) ≤ y2 → Q σ) ∧ (¬ ((nn : Int) ≤ y2) → (((0 : Int) ≤ y2 ∧ (y2 : Int) < (nn : Int)) ∧ (∀ s5 : St, s5 = up σ (k+1) y2 y1 → L_X4_fill_2 k nn Q y1 n (y2 + 1) s5))))))
def V_X4_fill (k nn : Nat) (x1 : Int) (σ : St) (Q : St → Prop) : Prop := (∃ n_, L_X4_fill_2 k nn Q x1 n_ 0 σ)
theorem up_ur (σ : St) (k : Nat) (f : Int → Int) (i v : Int) : up (ur σ k f) k i v = ur σ k (ui f i v) := by
  unfold up
  rw [ur_s]
  funext q
  unfold ur
  split <;> rfl
theorem ur_self (σ : St) (k : Nat) : ur σ k (σ k) = σ := by
  funext q
  unfold ur
  split
  · next h => rw [h]
  · rfl
theorem ur_congr {σ : St} {k : Nat} {f g : Int → Int} (h : ∀ j, f j = g j) : ur σ k f = ur σ k g := by rw [show f = g from funext h]
theorem ur_id {σ : St} {k : Nat} {f : Int → Int} (h : ∀ j, f j = σ k j) : ur σ k f = σ := by
  rw [show f = σ k from funext h, ur_self]
abbrev rm_X4_fill : Room := ({ frames := 0, cells := 0, slots := 0, locals := 0 } : Room)
theorem hd_X4_fill : yX4_fill.cls = RX4 ∧ yX4_fill.cls ≠ "java/lang/invoke/MethodHandle" ∧ yX4_fill.cls ≠ "java/lang/invoke/VarHandle" ∧ (parseMethodDescriptor yX4_fill.desc).map (fun d => d.parameters.length) = some 1 := ⟨rfl, by decide +kernel, by decide +kernel, by decide +kernel⟩
end
section
-- every word of wsL_law stands in lw_tbl
theorem inT {ws : List Cond} (ps : List Nat) (h : ws = ps.filterMap (fun i => lw_tbl[i]?)) : ∀ w ∈ ws, w ∈ lw_tbl := by
  intro w hw
  rw [h] at hw
  obtain ⟨i, -, hi⟩ := List.mem_filterMap.mp hw
  exact List.mem_of_getElem? hi
theorem in_app {a b T : List Cond} (ha : ∀ w ∈ a, w ∈ T) (hb : ∀ w ∈ b, w ∈ T) : ∀ w ∈ a ++ b, w ∈ T := fun w h => (List.mem_append.mp h).elim (ha w) (hb w)
set_option maxRecDepth 100000 in
theorem twsL_law_r1 : ∀ w ∈ wsL_law_r1, w ∈ lw_tbl := inT [49, 50, 40, 637, 638, 47, 51, 52, 53, 54, 55, 56, 57, 58, 41, 206, 94, 95, 43, 207, 113, 64, 42, 208] (by decide +kernel)
set_option maxRecDepth 100000 in
theorem twsL_law_r2 : ∀ w ∈ wsL_law_r2, w ∈ lw_tbl := inT [209, 115, 116, 44, 210, 149, 150, 46, 211, 212, 213, 59, 60, 61, 62, 63, 78, 79, 80, 81, 82, 65, 66, 67] (by decide +kernel)
set_option maxRecDepth 100000 in
theorem twsL_law_r3 : ∀ w ∈ wsL_law_r3, w ∈ lw_tbl := inT [68, 73, 69, 74, 75, 76, 77, 97, 98, 99, 100, 103, 104, 105, 102, 114, 117, 118, 119, 120, 121, 134, 135, 136] (by decide +kernel)
set_option maxRecDepth 100000 in
theorem twsL_law_r4 : ∀ w ∈ wsL_law_r4, w ∈ lw_tbl := inT [123, 124, 45, 137, 133, 122, 126, 127, 128, 129, 151, 152, 153, 154, 155, 159, 160, 161, 162, 163, 164, 165, 166, 167] (by decide +kernel)
set_option maxRecDepth 100000 in
theorem twsL_law_r5 : ∀ w ∈ wsL_law_r5, w ∈ lw_tbl := inT [168, 169, 170, 171, 172, 157, 158, 156, 639, 640, 641, 642, 643, 644, 646, 648, 649, 650, 651, 652, 653, 654, 231, 232] (by decide +kernel)
set_option maxRecDepth 100000 in
theorem twsL_law_r6 : ∀ w ∈ wsL_law_r6, w ∈ lw_tbl := inT [233, 234, 235, 236, 237, 238, 239, 240, 241, 242, 244, 0, 245, 246, 247, 248, 249, 250, 251, 252, 253, 254, 256, 1] (by decide +kernel)
set_option maxRecDepth 100000 in
theorem twsL_law_r7 : ∀ w ∈ wsL_law_r7, w ∈ lw_tbl := inT [257, 258, 259, 260, 261, 277, 275, 48, 276, 262, 264, 2, 265, 266, 267, 268, 269, 270, 271, 272, 273, 274, 278, 279] (by decide +kernel)
set_option maxRecDepth 100000 in
theorem twsL_law_r8 : ∀ w ∈ wsL_law_r8, w ∈ lw_tbl := inT [280, 281, 282, 283, 695, 696, 697, 698, 699, 700, 701, 702, 703, 704, 705, 707, 15, 708, 709, 711, 16, 712, 645, 284] (by decide +kernel)
set_option maxRecDepth 100000 in
theorem twsL_law_r9 : ∀ w ∈ wsL_law_r9, w ∈ lw_tbl := inT [285, 286, 287, 288, 290, 3, 291, 292, 293, 294, 295, 296, 297, 298, 299, 713, 714, 715, 716, 717, 719, 17, 720, 300] (by decide +kernel)
set_option maxRecDepth 100000 in
theorem twsL_law_r10 : ∀ w ∈ wsL_law_r10, w ∈ lw_tbl := inT [301, 302, 303, 304, 305, 306, 307, 721, 722, 723, 724, 308, 309, 310, 311, 725, 726, 727, 728, 312, 313, 314, 315, 729] (by decide +kernel)
set_option maxRecDepth 100000 in
theorem twsL_law_r11 : ∀ w ∈ wsL_law_r11, w ∈ lw_tbl := inT [730, 731, 732, 316, 317, 318, 319, 733, 734, 735, 736, 647, 320, 321, 322, 323, 737, 738, 739, 740, 324, 325, 326, 327] (by decide +kernel)
set_option maxRecDepth 100000 in
theorem twsL_law_r12 : ∀ w ∈ wsL_law_r12, w ∈ lw_tbl := inT [328, 329, 330, 331, 332, 333, 334, 335, 336, 337, 338, 339, 340, 741, 742, 743, 744, 745, 746, 747, 748, 749, 750, 341] (by decide +kernel)
set_option maxRecDepth 100000 in
theorem twsL_law_r13 : ∀ w ∈ wsL_law_r13, w ∈ lw_tbl := inT [342, 343, 344, 345, 346, 347, 348, 751, 752, 753, 754, 349, 350, 351, 352, 353, 354, 355, 356, 357, 358, 359, 360, 755] (by decide +kernel)
set_option maxRecDepth 100000 in
theorem twsL_law_r14 : ∀ w ∈ wsL_law_r14, w ∈ lw_tbl := inT [756, 757, 758, 361, 362, 363, 364, 365, 366, 367, 368, 759, 760, 761, 762, 763, 765, 18, 766, 369, 370, 371, 372, 373] (by decide +kernel)
set_option maxRecDepth 100000 in
theorem twsL_law_r15 : ∀ w ∈ wsL_law_r15, w ∈ lw_tbl := inT [375, 4, 376, 377, 378, 379, 380, 381, 382, 384, 5, 385, 386, 388, 389, 390, 391, 392, 393, 394, 396, 397, 398, 400] (by decide +kernel)
set_option maxRecDepth 100000 in
theorem twsL_law_r16 : ∀ w ∈ wsL_law_r16, w ∈ lw_tbl := inT [6, 401, 402, 403, 404, 405, 406, 407, 409, 410, 411, 412, 413, 414, 415, 416, 417, 419, 7, 420, 421, 423, 8, 424] (by decide +kernel)
set_option maxRecDepth 100000 in
theorem twsL_law_r17 : ∀ w ∈ wsL_law_r17, w ∈ lw_tbl := inT [425, 426, 427, 428, 429, 430, 432, 9, 433, 434, 435, 436, 438, 10, 439, 444, 445, 446, 440, 441, 442, 443, 447, 449] (by decide +kernel)
set_option maxRecDepth 100000 in
theorem twsL_law_r18 : ∀ w ∈ wsL_law_r18, w ∈ lw_tbl := inT [11, 450, 451, 452, 453, 454, 455, 456, 457, 459, 12, 460, 461, 463, 13, 464, 465, 466, 467, 469, 14, 470, 471, 472] (by decide +kernel)
set_option maxRecDepth 100000 in
theorem twsL_law_r19 : ∀ w ∈ wsL_law_r19, w ∈ lw_tbl := inT [473, 474, 475, 477, 478, 479, 480, 482, 481, 483, 767, 768, 769, 770, 771, 773, 19, 774, 775, 776, 777, 778, 780, 20] (by decide +kernel)
set_option maxRecDepth 100000 in
theorem twsL_law_r20 : ∀ w ∈ wsL_law_r20, w ∈ lw_tbl := inT [781, 782, 784, 21, 785, 786, 788, 22, 789, 790, 792, 23, 793, 794, 796, 24, 797, 798, 800, 25, 801, 484, 485, 486] (by decide +kernel)
set_option maxRecDepth 100000 in
theorem twsL_law_r21 : ∀ w ∈ wsL_law_r21, w ∈ lw_tbl := inT [487, 488, 489, 490, 491, 802, 803, 804, 805, 655, 806, 808, 26, 809, 657, 658, 656, 810, 812, 27, 813, 814, 816, 28] (by decide +kernel)
set_option maxRecDepth 100000 in
theorem twsL_law_r22 : ∀ w ∈ wsL_law_r22, w ∈ lw_tbl := inT [817, 818, 820, 29, 821, 822, 824, 30, 825, 826, 492, 493, 494, 495, 496, 497, 498, 499, 827, 828, 829, 830, 500, 501] (by decide +kernel)
set_option maxRecDepth 100000 in
theorem twsL_law_r23 : ∀ w ∈ wsL_law_r23, w ∈ lw_tbl := inT [502, 503, 504, 505, 506, 507, 508, 509, 510, 511, 831, 832, 833, 834, 835, 837, 31, 838, 839, 841, 32, 842, 843, 845] (by decide +kernel)
set_option maxRecDepth 100000 in
theorem twsL_law_r24 : ∀ w ∈ wsL_law_r24, w ∈ lw_tbl := inT [33, 846, 847, 849, 34, 850, 851, 853, 35, 854, 855, 857, 36, 858, 512, 513, 514, 515, 516, 517, 518, 519, 859, 860] (by decide +kernel)
set_option maxRecDepth 100000 in
theorem twsL_law_r25 : ∀ w ∈ wsL_law_r25, w ∈ lw_tbl := inT [861, 862, 520, 521, 522, 523, 524, 525, 526, 527, 863, 864, 865, 866, 528, 529, 530, 531, 532, 533, 534, 535, 867, 868] (by decide +kernel)
set_option maxRecDepth 100000 in
theorem twsL_law_r26 : ∀ w ∈ wsL_law_r26, w ∈ lw_tbl := inT [869, 870, 536, 537, 538, 539, 540, 541, 542, 543, 871, 872, 873, 874, 544, 545, 546, 547, 548, 549, 550, 551, 875, 876] (by decide +kernel)
set_option maxRecDepth 100000 in
theorem twsL_law_r27 : ∀ w ∈ wsL_law_r27, w ∈ lw_tbl := inT [877, 878, 552, 553, 554, 555, 556, 557, 558, 559, 879, 880, 881, 882, 560, 561, 562, 563, 564, 565, 566, 567, 883, 884] (by decide +kernel)
set_option maxRecDepth 100000 in
theorem twsL_law_r28 : ∀ w ∈ wsL_law_r28, w ∈ lw_tbl := inT [885, 886, 568, 569, 570, 571, 572, 573, 574, 575, 887, 888, 889, 890, 576, 577, 578, 579, 580, 581, 582, 583, 891, 892] (by decide +kernel)
set_option maxRecDepth 100000 in
theorem twsL_law_r29 : ∀ w ∈ wsL_law_r29, w ∈ lw_tbl := inT [893, 894, 584, 585, 586, 587, 588, 589, 590, 591, 895, 896, 897, 898, 592, 593, 594, 595, 596, 597, 598, 599, 600, 601] (by decide +kernel)
set_option maxRecDepth 100000 in
theorem twsL_law_r30 : ∀ w ∈ wsL_law_r30, w ∈ lw_tbl := inT [602, 603, 604, 899, 900, 901, 902, 605, 606, 607, 608, 903, 904, 905, 906, 609, 610, 611, 612, 613, 614, 615, 616, 617] (by decide +kernel)
set_option maxRecDepth 100000 in
theorem twsL_law_r31 : ∀ w ∈ wsL_law_r31, w ∈ lw_tbl := inT [618, 620, 621, 622, 623, 624, 625, 626, 627, 629, 630, 631, 632, 633, 634, 635, 907, 908, 909, 910, 911, 659, 912, 914] (by decide +kernel)
set_option maxRecDepth 100000 in
theorem twsL_law_r32 : ∀ w ∈ wsL_law_r32, w ∈ lw_tbl := inT [37, 915, 916, 917, 919, 38, 920] (by decide +kernel)
set_option maxRecDepth 100000 in
theorem twsX60 : ∀ w ∈ wsX60, w ∈ lw_tbl := by decide +kernel
set_option maxRecDepth 100000 in
theorem twsX70 : ∀ w ∈ wsX70, w ∈ lw_tbl := by decide +kernel
set_option maxRecDepth 100000 in
theorem twsX50 : ∀ w ∈ wsX50, w ∈ lw_tbl := by decide +kernel
set_option maxRecDepth 100000 in
theorem twsX10 : ∀ w ∈ wsX10, w ∈ lw_tbl := by decide +kernel
set_option maxRecDepth 100000 in
theorem twsX40 : ∀ w ∈ wsX40, w ∈ lw_tbl := by decide +kernel
set_option maxRecDepth 100000 in
theorem twsX20 : ∀ w ∈ wsX20, w ∈ lw_tbl := by decide +kernel
set_option maxRecDepth 100000 in
theorem twsX30 : ∀ w ∈ wsX30, w ∈ lw_tbl := by decide +kernel
set_option maxRecDepth 100000 in
theorem twsX00 : ∀ w ∈ wsX00, w ∈ lw_tbl := by decide +kernel
theorem wsL_in : ∀ w ∈ wsL_law, w ∈ lw_tbl := in_app (in_app (in_app (in_app (in_app (in_app (in_app (in_app (in_app (in_app twsL_law_r1 (in_app twsL_law_r2 (in_app twsL_law_r3 (in_app twsL_law_r4 (in_app twsL_law_r5 (in_app twsL_law_r6 (in_app twsL_law_r7 (in_app twsL_law_r8 (in_app twsL_law_r9 (in_app twsL_law_r10 (in_app twsL_law_r11 (in_app twsL_law_r12 (in_app twsL_law_r13 (in_app twsL_law_r14 (in_app twsL_law_r15 (in_app twsL_law_r16 (in_app twsL_law_r17 (in_app twsL_law_r18 (in_app twsL_law_r19 (in_app twsL_law_r20 (in_app twsL_law_r21 (in_app twsL_law_r22 (in_app twsL_law_r23 (in_app twsL_law_r24 (in_app twsL_law_r25 (in_app twsL_law_r26 (in_app twsL_law_r27 (in_app twsL_law_r28 (in_app twsL_law_r29 (in_app twsL_law_r30 (in_app twsL_law_r31 (twsL_law_r32)))))))))))))))))))))))))))))))) twsX60) twsX70) twsX50) twsX10) twsX40) twsX20) twsX30) twsX00) (fun _ h => absurd h List.not_mem_nil)
set_option maxRecDepth 100000 in
theorem tnl_0 : Cond.methodLinkNest "IslandGrammar" 18 yX1_init "IslandGrammar" ∈ lw_tbl := List.mem_of_getElem? (i := 96) (by decide +kernel)
set_option maxRecDepth 100000 in
theorem tnl_1 : Cond.methodLinkNest "IslandGrammar$Matcher" 28 yX0_init "IslandGrammar" ∈ lw_tbl := List.mem_of_getElem? (i := 125) (by decide +kernel)
set_option maxRecDepth 100000 in
theorem tnl_2 : Cond.methodLinkNest "IslandGrammar$Matcher" 67 yX6_isDigit "IslandGrammar" ∈ lw_tbl := List.mem_of_getElem? (i := 387) (by decide +kernel)
set_option maxRecDepth 100000 in
theorem tnl_3 : Cond.methodLinkNest "IslandGrammar$Matcher" 77 yX6_isLetter "IslandGrammar" ∈ lw_tbl := List.mem_of_getElem? (i := 395) (by decide +kernel)
set_option maxRecDepth 100000 in
theorem tnl_4 : Cond.methodLinkNest "IslandGrammar$Matcher" 60 yX6_isReference "IslandGrammar" ∈ lw_tbl := List.mem_of_getElem? (i := 408) (by decide +kernel)
set_option maxRecDepth 100000 in
theorem tnl_5 : Cond.methodLinkNest "IslandGrammar$Nodes" 132 yX6_isReference "IslandGrammar" ∈ lw_tbl := List.mem_of_getElem? (i := 476) (by decide +kernel)
set_option maxRecDepth 100000 in
theorem tnl_6 : Cond.methodLinkNest "IslandGrammar$Row" 25 yX6_mix "IslandGrammar" ∈ lw_tbl := List.mem_of_getElem? (i := 619) (by decide +kernel)
set_option maxRecDepth 100000 in
theorem tnl_7 : Cond.methodLinkNest "IslandGrammar$State" 52 yX6_mix "IslandGrammar" ∈ lw_tbl := List.mem_of_getElem? (i := 628) (by decide +kernel)
set_option maxRecDepth 100000 in
theorem tnl_8 : Cond.methodLinkNest "IslandGrammar$Nodes" 90 yX6_mix "IslandGrammar" ∈ lw_tbl := List.mem_of_getElem? (i := 636) (by decide +kernel)
set_option maxRecDepth 100000 in
theorem t_ao : Cond.arrayOver (.object "IslandGrammar$State") ∈ lw_tbl := List.mem_of_getElem? (i := 101) (by decide +kernel)
theorem gNw_of {s : State} {A : Array Value} (hts : ∀ w ∈ lw_tbl, w.before A s = true) : gNw s := List.forall_mem_cons.mpr ⟨va_Nw.of rfl (hts _ tnl_0), List.forall_mem_cons.mpr ⟨va_Nw.of rfl (hts _ tnl_1), List.forall_mem_cons.mpr ⟨va_Nw.of rfl (hts _ tnl_2), List.forall_mem_cons.mpr ⟨va_Nw.of rfl (hts _ tnl_3), List.forall_mem_cons.mpr ⟨va_Nw.of rfl (hts _ tnl_4), List.forall_mem_cons.mpr ⟨va_Nw.of rfl (hts _ tnl_5), List.forall_mem_cons.mpr ⟨va_Nw.of rfl (hts _ tnl_6), List.forall_mem_cons.mpr ⟨va_Nw.of rfl (hts _ tnl_7), List.forall_mem_cons.mpr ⟨va_Nw.of rfl (hts _ tnl_8), fun _ h => absurd h List.not_mem_nil⟩⟩⟩⟩⟩⟩⟩⟩⟩
end
section
-- constructors: worlds that grow; the addresses' map is a variable of its own
abbrev gw (w : GW) (g : Nat → Nat) : GW := (w.1, w.2.1, w.2.2.1, g)
def rfOK (SL : List Sh) : Bool := SL.all (fun q => q.2.2.all (fun c => decide (c < SL.length + 3)))
theorem rfOK_of {SL : List Sh} (h : rfOK SL = true) : ∀ q ∈ SL, ∀ c ∈ q.2.2, c < SL.length + 3 := by
  intro q hq c hc
  exact of_decide_eq_true (List.all_eq_true.mp (List.all_eq_true.mp h q hq) c hc)
theorem gV_ext {w : GW} {g g' : Nat → Nat} {n : Nat} (hg : ∀ k, k < n → g' k = g k) (f : Int → Int) (i : Int) {c : Nat} (hc : c < n + 3) : gV (gw w g') f i c = gV (gw w g) f i c := by
  match c, hc with
  | 0, _ => rfl
  | 1, _ => rfl
  | 2, _ => rfl
  | r + 3, hc =>
    show Value.ref (g' r) = Value.ref (g r)
    rw [hg r (by omega)]
theorem gO_ext {w : GW} {g g' : Nat → Nat} {n : Nat} (hg : ∀ k, k < n → g' k = g k) {c : Nat} (hc : c < n + 3) : gO (gw w g') c = gO (gw w g) c := by
  match c, hc with
  | 0, _ => rfl
  | 1, _ => rfl
  | 2, _ => rfl
  | r + 3, hc =>
    show some (g' r) = some (g r)
    rw [hg r (by omega)]
theorem gF_ext {w : GW} {g g' : Nat → Nat} {n : Nat} (hg : ∀ k, k < n → g' k = g k) (f : Int → Int) : ∀ (cs : List Nat) (i : Int), (∀ c ∈ cs, c < n + 3) → gF (gw w g') f i cs = gF (gw w g) f i cs := by
  intro cs
  induction cs with
  | nil => intro i _; rfl
  | cons c cs ih =>
    intro i h
    show gV (gw w g') f i c :: gF (gw w g') f (i + 1) cs = gV (gw w g) f i c :: gF (gw w g) f (i + 1) cs
    rw [gV_ext hg f i (h c List.mem_cons_self), ih (i + 1) (fun c hc => h c (List.mem_cons_of_mem _ hc))]
theorem gE_ext {w : GW} {g g' : Nat → Nat} {n : Nat} (hg : ∀ k, k < n → g' k = g k) (f : Int → Int) (sh : Sh) (h : ∀ c ∈ sh.2.2, c < n + 3) : gE (gw w g') f sh = gE (gw w g) f sh := by
  obtain ⟨a, b, cs⟩ := sh
  match a with
  | 0 => rfl
  | 1 =>
    show (Sum.inr (b, gF (gw w g') f 0 cs) : va_E) = Sum.inr (b, gF (gw w g) f 0 cs)
    rw [gF_ext hg f cs 0 h]
  | a + 2 =>
    have e : (fun j => gO (gw w g') (cs.getD j 2)) = fun j => gO (gw w g) (cs.getD j 2) := by
      funext j
      refine gO_ext hg ?_
      rw [List.getD_eq_getElem?_getD]
      cases e : cs[j]? with
      | none => exact Nat.lt_of_lt_of_le (show 2 < 3 by decide) (Nat.le_add_left 3 n)
      | some c => exact h c (List.mem_of_getElem? e)
    show (Sum.inl (w.2.2.1, b, Sum.inr (Sum.inr (Sum.inr (Sum.inr (fun j => gO (gw w g') (cs.getD j 2)))))) : va_E) = Sum.inl (w.2.2.1, b, Sum.inr (Sum.inr (Sum.inr (Sum.inr (fun j => gO (gw w g) (cs.getD j 2))))))
    rw [e]
theorem gW_app {w : GW} {g g' : Nat → Nat} {SL : List Sh} {sh : Sh} {σ σ' : St} {q : Nat} (hr : ∀ x ∈ SL, ∀ c ∈ x.2.2, c < SL.length + 3) (hg : ∀ k, k < SL.length → g' k = g k) (hq : g' SL.length = q) (hσ : ∀ k, k < SL.length → σ' k = σ k) : gW (gw w g') (SL ++ [sh]) σ' = gW (gw w g) SL σ ++ [(q, gE (gw w g') (σ' SL.length) sh)] := by
  unfold gW
  rw [List.length_append, List.length_singleton, List.range_succ, List.map_append]
  congr 1
  · apply List.map_congr_left
    intro k hk
    have hk := List.mem_range.mp hk
    have e : (SL ++ [sh]).getD k (0, 0, []) = SL.getD k (0, 0, []) := by
      rw [List.getD_eq_getElem?_getD, List.getD_eq_getElem?_getD, List.getElem?_append_left hk]
    have hm : SL.getD k (0, 0, []) ∈ SL := by
      rw [List.getD_eq_getElem?_getD, List.getElem?_eq_getElem hk]
      exact List.getElem_mem hk
    rw [e, hσ k hk, gE_ext hg (σ k) _ (hr _ hm)]
    show (g' k, _) = (g k, _)
    rw [hg k hk]
  · have e : (SL ++ [sh]).getD SL.length (0, 0, []) = sh := by
      rw [List.getD_eq_getElem?_getD, List.getElem?_append_right (Nat.le_refl _), Nat.sub_self]
      rfl
    show [(g' SL.length, gE (gw w g') (σ' SL.length) ((SL ++ [sh]).getD SL.length (0, 0, [])))] = _
    rw [e, hq]
theorem gW_setS {w : GW} {SL : List Sh} {σ : St} {k : Nat} (hk : k < SL.length) (sh : Sh) : (gW w SL σ).set k (gad w k, gE w (σ k) sh) = gW w (SL.set k sh) σ := by
  apply List.ext_getElem?
  intro q
  by_cases hq : q = k
  · subst hq
    rw [List.getElem?_set_self (by rw [gW_len]; exact hk), gW_at (w := w) (SL := SL.set q sh) (σ := σ) (sh := sh) (by rw [List.getElem?_set_self hk])]
  · rw [List.getElem?_set_ne (Ne.symm hq)]
    by_cases hl2 : q < SL.length
    · obtain ⟨sh2, h2⟩ : ∃ z, SL[q]? = some z := ⟨_, List.getElem?_eq_getElem hl2⟩
      rw [gW_at (w := w) (σ := σ) h2, gW_at (w := w) (SL := SL.set k sh) (σ := σ) (sh := sh2) (by rw [List.getElem?_set_ne (Ne.symm hq)]; exact h2)]
    · rw [List.getElem?_eq_none (by rw [gW_len]; omega), List.getElem?_eq_none (by rw [gW_len, List.length_set]; omega)]
theorem gF_setC {w : GW} {f : Int → Int} {cs : List Nat} {j r : Nat} {v : Nat} (hv : gad w r = v) : (gF w f 0 cs).set j (.ref v) = gF w f 0 (cs.set j (r + 3)) := by
  subst hv
  apply List.ext_getElem?
  intro q
  by_cases hq : q = j
  · subst hq
    by_cases hl : q < cs.length
    · rw [List.getElem?_set_self (by rw [gF_len]; exact hl), gF_at, List.getElem?_set_self hl]
      rfl
    · rw [List.getElem?_eq_none (by rw [List.length_set, gF_len]; omega), List.getElem?_eq_none (by rw [gF_len, List.length_set]; omega)]
  · rw [List.getElem?_set_ne (Ne.symm hq), gF_at, gF_at, List.getElem?_set_ne (Ne.symm hq)]
abbrev aoS : State → Prop := va_AO "IslandGrammar$State"
/-- a constructor's start: as a method's, and the word of the State arrays -/
def gPcC (w : GW) (SL : List Sh) (σ : St) (sz : Nat) (av : List Value) : Array Value → State → Prop := va_Pc av (fun U => (U.heap.size = sz ∧ va_P w.1 vwCl (gW w SL σ) U.heap ∧ va_K w.1 vwCl (gT w) U ∧ va_D (fun _ => True) (gW w SL σ) ∧ gNw U) ∧ aoS U)
/-- its end: the world has grown, the old addresses stay -/
abbrev gQc (w : GW) (g : Nat → Nat) (n sz : Nat) (SL' : List Sh) (σ' : St) : Array Value → State → Outcome → State → Prop := va_Qv (fun u : Nat → Nat => ∀ k, k < n → u k = g k) (fun u t => va_P w.1 vwCl (gW (gw w u) SL' σ') t.heap ∧ va_D (gA (gw w g) n sz) (gW (gw w u) SL' σ')) (gA (gw w g) n sz)
theorem iz_0 : iz 0 = 0 := rfl
section GCO
variable {p : Program} {l : Launch} {e : Env} {R : Room} {s : State} {m : MethodId} {args : Array Value} {below : List Frame} {meth : Method} {c : Code} {H : Heap} {locs : List Loc} {cells slots : Nat} {Q : State → Prop}
variable {cc : ByteArray} {pc nL n : Nat} {ls : Array Slot} {rest st : List Value} {A : Nat → Prop} {H0 : Heap} {w : GW} {g : Nat → Nat} {SL SL' : List Sh} {σ : St}
theorem g_metC {y : MethodName} {ret : Option FieldType} {rm : Room} {sz mc ms : Nat} {Qc : Array Value → State → Outcome → State → Prop} (hy : plainName y.cls = true) (av : List Value) (hln : (lg_sl av).length ≤ nL)
    (body : ∀ (p : Program) (e : Env) (s : State) (m : MethodId) (below : List Frame) (meth : Method) (c : Code) (ls : Array Slot), s.heap.size = sz → gC p s m av.toArray meth c cc ret nL y.cls (gA w SL.length sz) → meth.name = y.name → aoS s → lv_has ls nL (lv_args 0 av) → gS w SL σ (gA w SL.length sz) s s.heap s.heap [] → W p l e rm s m av.toArray below meth c s.heap [] 0 0 (MQ below Qc av.toArray s mc ms (gA w SL.length sz)) (F0 m 0 ls [])) :
    Met l y (Cond.code y cc nL ret :: wsL_law) rm (gPcC w SL σ sz av) Qc mc ms (gA w SL.length sz) := by
  refine Met.ofW (cc := cc) (maxL := nL) (ret := ret) hy rfl ?_
  intro p e s m args below meth c s₁ B hml hv
  obtain ⟨rfl, ⟨hsz, hP, hK, hD0, hN⟩, hao⟩ := hv
  have hts := atoms_spec (ws := Cond.code y cc nL ret :: wsL_law) B.pre
  have hown : s.vm.findClass y.cls = some m.cls := findClass_of_methodNamed B.named
  have hl := lv_entry av (n := nL) hln
  rw [lg_entry_eq]
  generalize (lg_sl av ++ List.replicate (nL - (lg_sl av).length) Slot.unset).toArray = ls at hl ⊢
  refine body p e s m below meth c ls hsz ⟨B.exec, B.bytes, B.returns, hml, hown, fun w hw => hts w (List.mem_cons_of_mem _ hw), B.notSynchronized, hN, fun q h => Or.inr (by rw [← hsz]; exact h)⟩ (name_of_methodNamed B.named B.method).1 hao hl ⟨hK, hP, ⟨hD0.1, fun k q hk => ?_⟩, va_S.rf⟩
  obtain ⟨h1, h2⟩ := gW_ad hk
  exact Or.inl ⟨k, h1, h2⟩
theorem g_newO (hexec : p.tables.exec = Jvm.exec) (hb : c.code = cc) (hts : ∀ w ∈ wsL_law, w.before args s = true) {own C : String} (hown : s.vm.findClass own = some m.cls) {T : u_T} {N ci index : Nat} (cs : List Nat) (hin : ∀ w ∈ u_ws C T N, w ∈ wsL_law) (ty0 : Nat → FieldType) (hty : ∀ k, k < N → parseFieldDescriptor (T k).2.2.1 = some (ty0 k)) (G : gS (gw w g) SL σ A s H0 H locs) (hA : ∀ q, H0.size ≤ q → A q) (hn : SL.length = n) (hr : rfOK SL = true) (hc : vwCl[ci]? = some (C, T, N)) (hfs : ∀ j, j < N → defaultValue (ty0 j) = vp_V (gF (gw w g) (fun _ => 0) 0 cs) j) (h0 : ∀ c ∈ cs, c < 3)
    (h1 : Cond.classLink own index C ∈ wsL_law) (h2 : Cond.instantiable C N ∈ wsL_law) (h3 : Cond.initialized C ∈ wsL_law) (hcells : cells + 1 ≤ R.cells) (hslots : slots + N ≤ R.slots) (hdg : decode cc pc = .ok (.new index, 3)) (hSL : SL ++ [(1, ci, cs)] = SL')
    (kk : ∀ (g' : Nat → Nat) (x : Nat) (H1 : Heap), g' n = x → (∀ k, k < n → g' k = g k) → gS (gw w g') SL' (ur σ n (fun _ => 0)) A s H0 H1 locs → W p l e R s m args below meth c H1 locs (cells + 1) (slots + N) Q (F0 m (pc + 3) ls (.ref x :: rest))) : W p l e R s m args below meth c H locs cells slots Q (F0 m pc ls rest) := by
  subst hSL
  subst hn
  refine va_new (ci := ci) (fs := gF (gw w g) (fun _ => 0) 0 cs) hexec hb hts hin ty0 hty hown (hts _ h1) (hts _ h2) (hts _ h3) G.1 G.2.1 G.2.2.1 G.2.2.2 hA hc hfs hcells hslots hdg (fun q H1 hP hD hS => ?_)
  obtain ⟨g', hg', hq⟩ : ∃ g' : Nat → Nat, (∀ k, k < SL.length → g' k = g k) ∧ g' SL.length = q := ⟨fun j => if j = SL.length then q else g j, fun k hk => if_neg (Nat.ne_of_lt hk), if_pos rfl⟩
  have e1 := gW_app (w := w) (sh := (1, ci, cs)) (σ := σ) (σ' := ur σ SL.length (fun _ => 0)) (rfOK_of hr) hg' hq (fun k hk => ur_n σ _ (Nat.ne_of_lt hk))
  have e2 : gE (gw w g') (ur σ SL.length (fun _ => 0) SL.length) (1, ci, cs) = .inr (ci, gF (gw w g) (fun _ => 0) 0 cs) := by
    rw [ur_s]
    show (Sum.inr (ci, gF (gw w g') (fun _ => 0) 0 cs) : va_E) = _
    rw [gF_ext (n := 0) (g := g) (g' := g') (fun k hk => absurd hk (Nat.not_lt_zero k)) (fun _ => 0) cs 0 (fun c hc => h0 c hc)]
  rw [e2] at e1
  rw [← e1] at hP hD
  exact kk g' q H1 hq hg' ⟨G.1, hP, hD, hS⟩
theorem g_newI (hexec : p.tables.exec = Jvm.exec) (hb : c.code = cc) (hts : ∀ w ∈ wsL_law, w.before args s = true) (G : gS (gw w g) SL σ A s H0 H locs) (hA : ∀ q, H0.size ≤ q → A q) (hn : SL.length = n) (hr : rfOK SL = true) (h1 : Cond.arrayClass .int ∈ wsL_law) (N : Nat) {NN : Int} (hNN : NN = (N : Int)) (hN : N < 100000) (hcells : cells + 1 ≤ R.cells) (hslots : slots + N ≤ R.slots) (hdg : decode cc pc = .ok (.newarray .int, 2)) (hSL : SL ++ [(0, N, [])] = SL')
    (kk : ∀ (g' : Nat → Nat) (x : Nat) (H1 : Heap), g' n = x → (∀ k, k < n → g' k = g k) → gS (gw w g') SL' (ur σ n (fun _ => 0)) A s H0 H1 locs → W p l e R s m args below meth c H1 locs (cells + 1) (slots + N) Q (F0 m (pc + 2) ls (.ref x :: rest))) : W p l e R s m args below meth c H locs cells slots Q (F0 m pc ls (.int (iz NN) :: rest)) := by
  subst hSL
  subst hn
  subst hNN
  have hneg : ¬ iz (N : Int) < 0 := fun h => by
    have := (iz_lt (a := (N : Int)) (b := 0) ⟨by omega, by omega⟩ ⟨by decide, by decide⟩).mp h
    omega
  have hcl : (iz (N : Int)).toNatClampNeg = N := by
    rw [iz_cl (by omega) (by omega)]
    omega
  refine va_newa (atype := .int) (ty := .int) (N' := N) (a0 := (N, .inl (fun _ => 0))) hexec hb (hts _ h1) rfl G.1 G.2.1 G.2.2.1 G.2.2.2 hA (fun cA => rfl) hneg hcl (Nat.le_trans (Nat.mul_le_mul_right _ (Nat.le_of_lt hN)) (by decide)) hcells hslots hdg (fun q cA H1 hK hP hD hS => ?_)
  have e3 : s.vm.findClass ("[" ++ FieldType.int.toString) = some cA := (hK.2 2 (cA, .int) rfl).2
  have e4 : s.vm.findClass ("[" ++ FieldType.int.toString) = some w.2.1 := (G.1.2 0 (w.2.1, .int) rfl).2
  have e5 : cA = w.2.1 := Option.some.inj (e3.symm.trans e4)
  subst e5
  obtain ⟨g', hg', hq⟩ : ∃ g' : Nat → Nat, (∀ k, k < SL.length → g' k = g k) ∧ g' SL.length = q := ⟨fun j => if j = SL.length then q else g j, fun k hk => if_neg (Nat.ne_of_lt hk), if_pos rfl⟩
  have e1 := gW_app (w := w) (sh := (0, N, [])) (σ := σ) (σ' := ur σ SL.length (fun _ => 0)) (rfOK_of hr) hg' hq (fun k hk => ur_n σ _ (Nat.ne_of_lt hk))
  have e2 : gE (gw w g') (ur σ SL.length (fun _ => 0) SL.length) (0, N, []) = .inl (w.2.1, N, .inl (fun _ => 0)) := by
    rw [ur_s]
    rfl
  rw [e2] at e1
  rw [← e1] at hP hD
  exact kk g' q H1 hq hg' ⟨G.1, hP, hD, hS⟩
theorem g_newR (hexec : p.tables.exec = Jvm.exec) (hb : c.code = cc) (hts : ∀ w ∈ wsL_law, w.before args s = true) {own : String} {index : Nat} (hown : s.vm.findClass own = some m.cls) (hao : aoS s) (G : gS (gw w g) SL σ A s H0 H locs) (hA : ∀ q, H0.size ≤ q → A q) (hn : SL.length = n) (hr : rfOK SL = true) (h1 : Cond.classLink own index "IslandGrammar$State" ∈ wsL_law) (N : Nat) {NN : Int} (hNN : NN = (N : Int)) (hN : N < 100000) (hcells : cells + 1 ≤ R.cells) (hslots : slots + N ≤ R.slots) (hdg : decode cc pc = .ok (.anewarray index, 3)) (cs : List Nat) (h0 : ∀ j, cs.getD j 2 = 2) (hSL : SL ++ [(2, N, cs)] = SL')
    (kk : ∀ (g' : Nat → Nat) (x : Nat) (H1 : Heap), g' n = x → (∀ k, k < n → g' k = g k) → gS (gw w g') SL' (ur σ n (fun _ => 0)) A s H0 H1 locs → W p l e R s m args below meth c H1 locs (cells + 1) (slots + N) Q (F0 m (pc + 3) ls (.ref x :: rest))) : W p l e R s m args below meth c H locs cells slots Q (F0 m pc ls (.int (iz NN) :: rest)) := by
  subst hSL
  subst hn
  subst hNN
  have hneg : ¬ iz (N : Int) < 0 := fun h => by
    have := (iz_lt (a := (N : Int)) (b := 0) ⟨by omega, by omega⟩ ⟨by decide, by decide⟩).mp h
    omega
  have hcl : (iz (N : Int)).toNatClampNeg = N := by
    rw [iz_cl (by omega) (by omega)]
    omega
  refine va_newq hexec hb hown (hts _ h1) hao G.1 G.2.1 G.2.2.1 G.2.2.2 hA hneg hcl (Nat.le_trans (Nat.mul_le_mul_right _ (Nat.le_of_lt hN)) (by decide)) hcells hslots hdg (fun q cA H1 hK hP hD hS => ?_)
  obtain ⟨kA3, cm3, -, -, -, e3⟩ := (hK.2 2 (cA, .object "IslandGrammar$State") rfl).2
  obtain ⟨kA4, cm4, -, -, -, e4⟩ := (G.1.2 1 (w.2.2.1, .object "IslandGrammar$State") rfl).2
  have e5 : cA = w.2.2.1 := Option.some.inj (e3.symm.trans e4)
  subst e5
  obtain ⟨g', hg', hq⟩ : ∃ g' : Nat → Nat, (∀ k, k < SL.length → g' k = g k) ∧ g' SL.length = q := ⟨fun j => if j = SL.length then q else g j, fun k hk => if_neg (Nat.ne_of_lt hk), if_pos rfl⟩
  have e1 := gW_app (w := w) (sh := (2, N, cs)) (σ := σ) (σ' := ur σ SL.length (fun _ => 0)) (rfOK_of hr) hg' hq (fun k hk => ur_n σ _ (Nat.ne_of_lt hk))
  have e2 : gE (gw w g') (ur σ SL.length (fun _ => 0) SL.length) (2, N, cs) = .inl (w.2.2.1, N, .inr (.inr (.inr (.inr (fun _ => none))))) := by
    have e6 : (fun j => gO (gw w g') (cs.getD j 2)) = fun _ => none := by
      funext j
      rw [h0 j]
      rfl
    show (Sum.inl (w.2.2.1, N, Sum.inr (Sum.inr (Sum.inr (Sum.inr (fun j => gO (gw w g') (cs.getD j 2)))))) : va_E) = _
    rw [e6]
  rw [e2] at e1
  rw [← e1] at hP hD
  exact kk g' q H1 hq hg' ⟨G.1, hP, hD, hS⟩
theorem g_putF (hexec : p.tables.exec = Jvm.exec) (hb : c.code = cc) (hts : ∀ w ∈ wsL_law, w.before args s = true) {own C : String} (hown : s.vm.findClass own = some m.cls) {T : u_T} {N ci index k : Nat} {cs : List Nat} (j r : Nat) (hin : ∀ w ∈ u_ws C T N, w ∈ wsL_law) (ty0 : Nat → FieldType) (hty : ∀ k, k < N → parseFieldDescriptor (T k).2.2.1 = some (ty0 k)) (hnm : ∀ a, a < N → ∀ b, b < N → a ≠ b → (T a).2.1 ≠ (T b).2.1) (G : gS (gw w g) SL σ A s H0 H locs) (hsh : SL[k]? = some (1, ci, cs)) (hc : vwCl[ci]? = some (C, T, N)) (hk : j < N) (hj : j < cs.length) (hlink : Cond.fieldLink own index (T j).1 (T j).2.1 (T j).2.2.1 ∈ wsL_law) (hfin : (T j).2.2.2 = true) (hin2 : meth.name = "<init>") (hdecl : (T j).1 = own) {a v : Nat} (hn : narrow (ty0 j) (.ref v) = .ref v) (hfit : fits (ty0 j) (.ref v) = true) (hdg : decode cc pc = .ok (.putfield index, 3)) (ha : g k = a) (hv : g r = v) (hSL : SL.set k (1, ci, cs.set j (r + 3)) = SL')
    (kk : ∀ (H1 : Heap) (locs1 : List Loc), gS (gw w g) SL' σ A s H0 H1 locs1 → W p l e R s m args below meth c H1 locs1 cells slots Q (F0 m (pc + 3) ls rest)) : W p l e R s m args below meth c H locs cells slots Q (F0 m pc ls (.ref v :: .ref a :: rest)) := by
  subst hSL
  subst ha
  have hkl := (List.getElem?_eq_some_iff.mp hsh).1
  have e1 := gW_setS (w := gw w g) (σ := σ) hkl (1, ci, cs.set j (r + 3))
  have e2 : gE (gw w g) (σ k) (1, ci, cs.set j (r + 3)) = .inr (ci, (gF (gw w g) (σ k) 0 cs).set j (.ref v)) := by
    rw [gF_setC (w := gw w g) hv]
    rfl
  rw [e2] at e1
  refine va_putF hexec hb hts hin ty0 hty hnm hown G.1 G.2.1 G.2.2.1 G.2.2.2 k (gW_at hsh) hc j hk (hts _ hlink) (fun _ h => h) hfin hin2 hdecl (hty j hk) hn hfit (by rw [gF_len]; exact hj) hdg (fun H1 locs1 hP hD hS => kk H1 locs1 ⟨G.1, ?_, ?_, hS⟩)
  · rw [← e1]
    exact hP
  · rw [← e1]
    exact hD
theorem g_astR (hexec : p.tables.exec = Jvm.exec) (hb : c.code = cc) (G : gS (gw w g) SL σ A s H0 H locs) {k r N : Nat} {cs vs : List Nat} (hsh : SL[k]? = some (2, N, cs)) (hr : SL[r]? = some (1, 5, vs)) {i : Nat} {ii : Int} (hii : ii = (i : Int)) (hi : i < N) (hN : N < 100000) (hj : i < cs.length) (hdg : decode cc pc = .ok (.aastore, 1)) {a v : Nat} (ha : g k = a) (hv : g r = v) (hSL : SL.set k (2, N, cs.set i (r + 3)) = SL')
    (kk : ∀ (H1 : Heap) (locs1 : List Loc), gS (gw w g) SL' σ A s H0 H1 locs1 → W p l e R s m args below meth c H1 locs1 cells slots Q (F0 m (pc + 1) ls rest)) : W p l e R s m args below meth c H locs cells slots Q (F0 m pc ls (.ref v :: .int (iz ii) :: .ref a :: rest)) := by
  subst hSL
  subst hii
  subst ha
  subst hv
  have hkl := (List.getElem?_eq_some_iff.mp hsh).1
  have e1 := gW_setS (w := gw w g) (σ := σ) hkl (2, N, cs.set i (r + 3))
  have hcl : (iz (i : Int)).toNatClampNeg = i := by
    rw [iz_cl (by omega) (by omega)]
    omega
  have e2 : gE (gw w g) (σ k) (2, N, cs.set i (r + 3)) = .inl (w.2.2.1, N, .inr (.inr (.inr (.inr (va_up (fun j => gO (gw w g) (cs.getD j 2)) (iz (i : Int)).toNatClampNeg (some (g r))))))) := by
    have e6 : (fun j => gO (gw w g) ((cs.set i (r + 3)).getD j 2)) = va_up (fun j => gO (gw w g) (cs.getD j 2)) (iz (i : Int)).toNatClampNeg (some (g r)) := by
      funext j
      unfold va_up
      rw [hcl]
      show gO (gw w g) ((cs.set i (r + 3)).getD j 2) = if j = i then some (g r) else gO (gw w g) (cs.getD j 2)
      rw [List.getD_eq_getElem?_getD, List.getD_eq_getElem?_getD]
      by_cases q : j = i
      · subst q
        rw [if_pos rfl, List.getElem?_set_self hj]
        rfl
      · rw [if_neg q, List.getElem?_set_ne (Ne.symm q)]
    show (Sum.inl (w.2.2.1, N, Sum.inr (Sum.inr (Sum.inr (Sum.inr (fun j => gO (gw w g) ((cs.set i (r + 3)).getD j 2)))))) : va_E) = _
    rw [e6]
  rw [e2] at e1
  refine va_astq hexec hb G.1 G.2.1 G.2.2.1 G.2.2.2 k 1 r 5 (gW_at hsh) rfl (gW_at hr) rfl (show vp_in (iz (i : Int)) N from iz_in (by omega) (by omega) (by omega)) hdg (fun H1 locs1 hP hD hS => kk H1 locs1 ⟨G.1, ?_, ?_, hS⟩)
  · rw [← e1]
    exact hP
  · rw [← e1]
    exact hD
theorem gPcC_blind {w : GW} {SL : List Sh} {sz : Nat} {av : List Value} : FrameBlind (gPcC w SL σ sz av) := fun a U g mk q => by
  obtain ⟨q0, ⟨q1, qP, qK, qD, qN⟩, qA⟩ := q
  exact ⟨q0, ⟨q1, qP, va_K.moved (u := U) (U := U.calling g mk a) (Vm.Alike.refl U.vm) qK, qD, gNw.same rfl qN⟩, va_AO.moved (u := U) (U := U.calling g mk a) (Vm.Alike.refl U.vm) qA⟩
theorem gPreC {w : GW} {SL : List Sh} {As : List Value} (G : gS w SL σ A s H0 H locs) (hN : gNw s) (hao : aoS s) : PreS s H (gPcC w SL σ H.size As) As := ⟨gPcC_blind, fun U hU hW =>
  ⟨rfl, ⟨by rw [hU], by rw [hU]; exact G.2.1, va_K.moved hW.alike G.1, G.2.2.1.weaken (fun _ _ _ _ => trivial), hN.warm hW⟩, va_AO.moved hW.alike hao⟩⟩
theorem g_doneC {w : GW} {mc ms n0 : Nat} {σ' : St} {a : Array Value} (G : gS (gw w g) SL σ A s H0 H locs) (hn : SL.length = n0) (hA : ∀ q, H0.size ≤ q → A q) (hr : va_Run p l e R s m args below meth c H locs cells slots mc ms (F0 m pc ls st) rest (gQc w g SL.length H.size SL' σ' a) (gA (gw w g) SL.length H.size)) (kk : ∀ (g' : Nat → Nat) (H1 : Heap) (locs1 : List Loc), (∀ k, k < n0 → g' k = g k) → gS (gw w g') SL' σ' A s H0 H1 locs1 → W p l e R s m args below meth c H1 locs1 (cells + mc) (slots + ms) Q (F0 m (pc + 3) ls rest)) : W p l e R s m args below meth c H locs cells slots Q (F0 m pc ls st) := by
  subst hn
  refine va_callv hr G.2.2.2 (fun q _ h => gIn G hA q h) (gIn G hA) (fun u t H1 locs1 ht hvm hw hB hz1 hk1 hS => ?_)
  refine kk u H1 locs1 hw ⟨G.1, ?_, ?_, hS⟩
  · rw [← ht]
    exact hB.1
  · exact hB.2.weaken (fun k q _ h => gIn G hA q.1 h)
theorem g_callC (hexec : p.tables.exec = Jvm.exec) (hb : c.code = cc) (hml : c.maxLocals = nL) (hts : ∀ w ∈ wsL_law, w.before args s = true) {own : String} (hown : s.vm.findClass own = some m.cls) (hN : gNw s) (hao : aoS s) (hA : ∀ q, H0.size ≤ q → A q) (G : gS (gw w g) SL σ A s H0 H locs) {y : MethodName} {bytes : ByteArray} {maxL n index mc ms n0 : Nat} {rm : Room} {x : Nat} (As : List Value) {σ' : St} (hM : Met l y (Cond.code y bytes maxL none :: wsL_law) rm (gPcC (gw w g) SL σ H.size (.ref x :: As)) (gQc w g SL.length H.size SL' σ') mc ms (gA (gw w g) SL.length H.size)) (hn0 : SL.length = n0) (h1 : Cond.methodLink own index y ∈ wsL_law) (h2 : Cond.instanceMethod y ∈ wsL_law) (h4 : Cond.initialized y.cls ∈ wsL_law) (h5 : Cond.code y bytes maxL none ∈ wsL_law) (hy : y.name = "<init>") (hd : y.cls ≠ "java/lang/invoke/MethodHandle" ∧ y.cls ≠ "java/lang/invoke/VarHandle" ∧ (parseMethodDescriptor y.desc).map (fun d => d.parameters.length) = some n) (hR : rm.cells = mc ∧ rm.slots = ms ∧ rm.frames + 1 ≤ R.frames ∧ 8 + (maxL + 11) + rm.locals ≤ R.locals) (hn : As.length = n) (hsz : ls.size = nL) (hst : (rest.map fun v => v.category).sum ≤ 8) (hstk : st = As.reverse ++ .ref x :: rest) (hdg : decode cc pc = .ok (.invokespecial index, 3)) (hf : cells + mc ≤ R.cells ∧ slots + ms ≤ R.slots)
    (kk : ∀ (g' : Nat → Nat) (H1 : Heap) (locs1 : List Loc), (∀ k, k < n0 → g' k = g k) → gS (gw w g') SL' σ' A s H0 H1 locs1 → W p l e R s m args below meth c H1 locs1 (cells + mc) (slots + ms) Q (F0 m (pc + 3) ls rest)) : W p l e R s m args below meth c H locs cells slots Q (F0 m pc ls st) :=
  g_doneC G hn0 hA (va_runI (As := As) (rest := rest) ⟨hexec, hb, hml, hown, hts⟩ hM (cwI n hts (gGoodC h5) rfl hR.1 hR.2.1 (hts _ h4) (hts _ h1) (hts _ h2) hy hd ⟨hR.2.2.1, hR.2.2.2⟩) (gPreC G hN hao) rfl hn hsz hstk (lv_room hst) hdg hf) kk
theorem g_callCN (hexec : p.tables.exec = Jvm.exec) (hb : c.code = cc) (hml : c.maxLocals = nL) (hts : ∀ w ∈ wsL_law, w.before args s = true) {own host : String} (hown : s.vm.findClass own = some m.cls) (hN : gNw s) (hao : aoS s) (hA : ∀ q, H0.size ≤ q → A q) (G : gS (gw w g) SL σ A s H0 H locs) {y : MethodName} {bytes : ByteArray} {maxL n index mc ms n0 : Nat} {rm : Room} {x : Nat} (As : List Value) {σ' : St} (hM : Met l y (Cond.code y bytes maxL none :: wsL_law) rm (gPcC (gw w g) SL σ H.size (.ref x :: As)) (gQc w g SL.length H.size SL' σ') mc ms (gA (gw w g) SL.length H.size)) (hn0 : SL.length = n0) (h1 : (own, index, y, host) ∈ gNl) (h2 : Cond.instanceMethod y ∈ wsL_law) (h4 : Cond.initialized y.cls ∈ wsL_law) (h5 : Cond.code y bytes maxL none ∈ wsL_law) (hy : y.name = "<init>") (hd : y.cls ≠ "java/lang/invoke/MethodHandle" ∧ y.cls ≠ "java/lang/invoke/VarHandle" ∧ (parseMethodDescriptor y.desc).map (fun d => d.parameters.length) = some n) (hR : rm.cells = mc ∧ rm.slots = ms ∧ rm.frames + 1 ≤ R.frames ∧ 8 + (maxL + 11) + rm.locals ≤ R.locals) (hn : As.length = n) (hsz : ls.size = nL) (hst : (rest.map fun v => v.category).sum ≤ 8) (hstk : st = As.reverse ++ .ref x :: rest) (hdg : decode cc pc = .ok (.invokespecial index, 3)) (hf : cells + mc ≤ R.cells ∧ slots + ms ≤ R.slots)
    (kk : ∀ (g' : Nat → Nat) (H1 : Heap) (locs1 : List Loc), (∀ k, k < n0 → g' k = g k) → gS (gw w g') SL' σ' A s H0 H1 locs1 → W p l e R s m args below meth c H1 locs1 (cells + mc) (slots + ms) Q (F0 m (pc + 3) ls rest)) : W p l e R s m args below meth c H locs cells slots Q (F0 m pc ls st) :=
  g_doneC G hn0 hA (va_runIN (As := As) (rest := rest) ⟨hexec, hb, hml, hown, hts⟩ hM ⟨va_cnB n hts (gGoodC h5) rfl hR.1 hR.2.1 (hN _ h1) (hts _ h4) hd ⟨hR.2.2.1, hR.2.2.2⟩, hy, hts _ h2⟩ (gPreC G hN hao) rfl hn hsz hstk (lv_room hst) hdg hf) kk
theorem g_cret {w : GW} {g0 : Nat → Nat} {SL0 : List Sh} {n0 mc ms sz : Nat} (hexec : p.tables.exec = Jvm.exec) (hb : c.code = cc) (hr : meth.sig.returnType = none) (hlk : meth.locks = false) (hn : SL0.length = n0) (hz : s.heap.size = sz) (E : ∀ k, k < n0 → g k = g0 k) (G : gS (gw w g) SL' σ (gA (gw w g0) SL0.length sz) s s.heap H locs) (hc : cells ≤ mc) (hs : slots ≤ ms) (hdg : decode cc pc = .ok (.return_, 1)) : W p l e R s m args below meth c H locs cells slots (MQ below (gQc w g0 SL0.length sz SL' σ) args s mc ms (gA (gw w g0) SL0.length sz)) (F0 m pc ls []) := by
  subst hn
  exact W.widen hc hs (W.vret hexec hb hr (fun t ht hW => ⟨⟨g, rfl, E, by rw [ht]; exact G.2.1, G.2.2.1⟩, G.2.2.2.F ht⟩) G.2.2.2.2.2 hdg hlk)
theorem g_getA (hexec : p.tables.exec = Jvm.exec) (hb : c.code = cc) (hts : ∀ w ∈ wsL_law, w.before args s = true) {own C : String} (hown : s.vm.findClass own = some m.cls) {T : u_T} {N ci index : Nat} {cs : List Nat} {k : Nat} (j r : Nat) (hin : ∀ w ∈ u_ws C T N, w ∈ wsL_law) (G : gS (gw w g) SL σ A s H0 H locs) (hsh : SL[k]? = some (1, ci, cs)) (hc : vwCl[ci]? = some (C, T, N)) (hk : j < N) (hj : cs[j]? = some (r + 3)) (hlink : Cond.fieldLink own index (T j).1 (T j).2.1 (T j).2.2.1 ∈ wsL_law) (hdg : decode cc pc = .ok (.getfield index, 3)) {a v : Nat} (ha : g k = a) (hv : g r = v)
    (kk : W p l e R s m args below meth c H locs cells slots Q (F0 m (pc + 3) ls (.ref v :: rest))) : W p l e R s m args below meth c H locs cells slots Q (F0 m pc ls (.ref a :: rest)) := by
  subst ha
  subst hv
  exact g_getR hexec hb hts hown j r hin G hsh hc hk hj hlink hdg kk
theorem g_putA (hexec : p.tables.exec = Jvm.exec) (hb : c.code = cc) (hts : ∀ w ∈ wsL_law, w.before args s = true) {own C : String} (hown : s.vm.findClass own = some m.cls) {T : u_T} {N ci index : Nat} {cs : List Nat} {k : Nat} (j : Nat) (hin : ∀ w ∈ u_ws C T N, w ∈ wsL_law) (ty0 : Nat → FieldType) (hty : ∀ k, k < N → parseFieldDescriptor (T k).2.2.1 = some (ty0 k)) (hnm : ∀ a, a < N → ∀ b, b < N → a ≠ b → (T a).2.1 ≠ (T b).2.1) (G : gS (gw w g) SL σ A s H0 H locs) (hsh : SL[k]? = some (1, ci, cs)) (hc : vwCl[ci]? = some (C, T, N)) (hk : j < N) (hj : cs[j]? = some 0) (hlink : Cond.fieldLink own index (T j).1 (T j).2.1 (T j).2.2.1 ∈ wsL_law) (hfin : (T j).2.2.2 = false) {x : Int} (hn : narrow (ty0 j) (.int (iz x)) = .int (iz x)) (hfit : fits (ty0 j) (.int (iz x)) = true) (hdg : decode cc pc = .ok (.putfield index, 3)) {a : Nat} (ha : g k = a)
    (kk : ∀ (H1 : Heap) (locs1 : List Loc), gS (gw w g) SL (up σ k j x) A s H0 H1 locs1 → W p l e R s m args below meth c H1 locs1 cells slots Q (F0 m (pc + 3) ls rest)) : W p l e R s m args below meth c H locs cells slots Q (F0 m pc ls (.int (iz x) :: .ref a :: rest)) := by
  subst ha
  exact g_putI hexec hb hts hown j hin ty0 hty hnm G hsh hc hk hj hlink hfin hn hfit hdg (fun σ1 e1 H1 locs1 G1 => kk H1 locs1 (by rw [← e1]; exact G1))
theorem g_astA (hexec : p.tables.exec = Jvm.exec) (hb : c.code = cc) (G : gS (gw w g) SL σ A s H0 H locs) {k N : Nat} {cs : List Nat} (hsh : SL[k]? = some (0, N, cs)) {i x : Int} (h0 : 0 ≤ i) (h1 : i < (N : Int)) (hn : N < 2147483648) (hdg : decode cc pc = .ok (.iastore, 1)) {a : Nat} (ha : g k = a)
    (kk : ∀ (H1 : Heap) (locs1 : List Loc), gS (gw w g) SL (up σ k i x) A s H0 H1 locs1 → W p l e R s m args below meth c H1 locs1 cells slots Q (F0 m (pc + 1) ls rest)) : W p l e R s m args below meth c H locs cells slots Q (F0 m pc ls (.int (iz x) :: .int (iz i) :: .ref a :: rest)) := by
  subst ha
  exact g_ast hexec hb G hsh h0 h1 hn hdg (fun σ1 e1 H1 locs1 G1 => kk H1 locs1 (by rw [← e1]; exact G1))
theorem g_objI (hexec : p.tables.exec = Jvm.exec) (hb : c.code = cc) (hml : c.maxLocals = nL) (hts : ∀ w ∈ wsL_law, w.before args s = true) {own : String} {index : Nat} (hown : s.vm.findClass own = some m.cls) (h1 : Cond.methodLink own index objectInit ∈ wsL_law) (h2 : Cond.instanceMethod objectInit ∈ wsL_law) (h3 : Cond.code objectInit ⟨#[0xb1]⟩ 1 none ∈ wsL_law) (hsz : ls.size = nL) (hst : (rest.map fun v => v.category).sum + 12 ≤ R.locals) (hfr : 1 ≤ R.frames) (hdg : decode cc pc = .ok (.invokespecial index, 3)) {a : Nat}
    (kk : W p l e R s m args below meth c H locs cells slots Q (F0 m (pc + 3) ls rest)) : W p l e R s m args below meth c H locs cells slots Q (F0 m pc ls (.ref a :: rest)) :=
  W.objInit hexec hb hown (hts _ h1) (hts _ h2) (hts _ h3) rfl (hsz.trans hml.symm) rfl hdg hfr (by show 0 + _ + 12 ≤ _; omega) (W.eq (g2 := F0 m (pc + 3) ls rest) rfl kk)
end GCO
end
section
theorem gD4 : ∀ j, ([2, 2, 2, 2] : List Nat).getD j 2 = 2 := fun j => by
  match j with
  | 0 => rfl
  | 1 => rfl
  | 2 => rfl
  | 3 => rfl
  | j + 4 => rfl
def isRowL (SL : List Sh) (k n : Nat) : Prop := SL[k]? = some (1, 4, [k + 1 + 3]) ∧ SL[k + 1]? = some (0, n, [])
set_option maxHeartbeats 4000000 in
set_option maxRecDepth 100000 in
theorem lwS_X4_fill_2 (SL : List Sh) {p : Program} {l : Launch} {e : Env} {s : State} {m : MethodId} {args : Array Value} {below : List Frame} {meth : Method} {c : Code} {w : GW} {sz : Nat} (k nn : Nat) (hik : isRowL SL k nn) (hn9 : nn < 2147483648) (hz : s.heap.size = sz) (C0 : gC p s m args meth c cX4_fill none 3 yX4_fill.cls (gA w SL.length sz)) (Q : St → Prop) (y1 : Int) : ∀ (n : Nat) (y2 : Int) (σ : St) (H : Heap) (locs : List Loc) (ls : Array Slot), L_X4_fill_2 k nn Q y1 n y2 σ → gS w SL σ (gA w SL.length sz) s s.heap H locs → lv_has ls 3 [(0, .ref (gad w k)), (1, .int (iz y1)), (2, .int (iz y2))] → W p l e rm_X4_fill s m args below meth c H locs 0 0 (MQ below (gQv w SL sz Q) args s 0 0 (gA w SL.length sz)) (F0 m 2 ls []) := by
  obtain ⟨hx, hb, hr, hml, hown, hts, hlk, hNw, hA⟩ := id C0
  have hown : s.vm.findClass RX4 = some m.cls := hown
  intro n
  induction n with
  | zero => intro y2 σ H locs ls hv; exact hv.elim
  | succ n ih =>
    intro y2 σ H locs ls hv G hl
    refine lv_iload_n hx hb dX4_fill_2 rfl (lv_at hl 2 rfl) ?_
    refine lv_aload_n hx hb dX4_fill_3 rfl (lv_at hl 0 rfl) ?_
    refine g_getR hx hb hts hown 0 (k+1) inlX4 G hik.1 rfl (by decide) rfl wm_50 dX4_fill_4 ?_
    refine g_alen hx hb G hik.2 dX4_fill_7 ?_
    obtain ⟨i1, hv⟩ := hv
    obtain ⟨i2, hv⟩ := hv
    refine g_icmp_ge (tgt := 24) hx hb i1 i2 dX4_fill_8 (by decide) (fun c3 => ?_) (fun c3 => ?_)
    · have hv := hv.1 c3
      exact g_vret hx hb hr hlk hz G hv dX4_fill_24
    · have hv := hv.2 c3
      refine lv_aload_n hx hb dX4_fill_11 rfl (lv_at hl 0 rfl) ?_
      refine g_getR hx hb hts hown 0 (k+1) inlX4 G hik.1 rfl (by decide) rfl wm_50 dX4_fill_12 ?_
      refine lv_iload_n hx hb dX4_fill_15 rfl (lv_at hl 2 rfl) ?_
      refine lv_iload_n hx hb dX4_fill_16 rfl (lv_at hl 1 rfl) ?_
      obtain ⟨o4, hv⟩ := hv
      refine g_ast hx hb G hik.2 o4.1 o4.2 hn9 dX4_fill_17 (fun s5 es5 H locs G => ?_)
      have hv := hv s5 es5
      refine g_iinc (k := 2) (x := y2) (n := 1) (lv' := [(2, .int (iz (y2 + 1))), (0, .ref (gad w k)), (1, .int (iz y1))]) hx hb dX4_fill_18 hl rfl (by decide) rfl (fun ls hl => ?_)
      refine lv_goto (tgt := 2) hx hb dX4_fill_21 (by decide) ?_
      exact ih _ _ _ _ _ hv G (lv_sub hl [1, 2, 0] rfl)
theorem lS_X4_fill (k nn : Nat) (hn9 : nn < 2147483648) (v : Int) (Q : St → Prop) (σ : St) (hQ : Q (ur σ (k + 1) (fun j => if 0 ≤ j ∧ j < (nn : Int) then v else σ (k + 1) j))) : ∀ (d : Nat) (i : Int) (s : St), 0 ≤ i → i + d = nn → s = ur σ (k + 1) (fun j => if 0 ≤ j ∧ j < i then v else σ (k + 1) j) → ∃ n, L_X4_fill_2 k nn Q v n i s := by
  have h1 := hn9
  intro d
  induction d with
  | zero =>
    intro i s h0 hi hs
    refine ⟨1, ⟨by omega, by omega⟩, ⟨by omega, by omega⟩, fun _ => ?_, fun h => absurd (by omega) h⟩
    rw [hs, show i = (nn : Int) by omega]
    exact hQ
  | succ d ih =>
    intro i s h0 hi hs
    have e : up s (k + 1) i v = ur σ (k + 1) (fun j => if 0 ≤ j ∧ j < i + 1 then v else σ (k + 1) j) := by
      rw [hs, up_ur]
      refine ur_congr (fun j => ?_)
      unfold ui
      dsimp only
      by_cases hj : j = i
      · subst hj
        rw [if_pos rfl, if_pos (by omega)]
      · rw [if_neg hj]
        split <;> split <;> first | rfl | (exfalso; omega)
    obtain ⟨n, hn⟩ := ih (i + 1) _ (by omega) (by omega) e
    exact ⟨n + 1, ⟨by omega, by omega⟩, ⟨by omega, by omega⟩, fun h => absurd h (by omega), fun _ => ⟨⟨h0, by omega⟩, fun s9 e9 => by rw [e9]; exact hn⟩⟩
theorem vS_X4_fill (k nn : Nat) (hn9 : nn < 2147483648) (x1 : Int) (σ : St) (hp : pre_X4_fill k nn x1 σ) : V_X4_fill k nn x1 σ (post_X4_fill k nn x1 σ) := by
  refine lS_X4_fill k nn hn9 x1 (post_X4_fill k nn x1 σ) σ rfl nn 0 σ (by omega) (by omega) ?_
  refine (ur_id (fun j => ?_)).symm
  rw [if_neg (by omega)]
set_option maxHeartbeats 4000000 in
set_option maxRecDepth 100000 in
theorem cS_X4_fill (SL : List Sh) (l : Launch) (w : GW) (σ : St) (sz : Nat) (k nn : Nat) (hik : isRowL SL k nn) (hn9 : nn < 2147483648) (x1 : Int) (hp : pre_X4_fill k nn x1 σ) : Met l yX4_fill (Cond.code yX4_fill cX4_fill 3 none :: wsL_law) rm_X4_fill (gPc w SL σ sz [.ref (gad w k), .int (iz x1)]) (gQv w SL sz (post_X4_fill k nn x1 σ)) 0 0 (gA w SL.length sz) := by
  have hv : V_X4_fill k nn x1 σ (post_X4_fill k nn x1 σ) := vS_X4_fill k nn hn9 x1 σ hp
  refine g_met (by decide) [.ref (gad w k), .int (iz x1)] (Nat.le_of_ble_eq_true rfl) ?_
  intro p e s m below meth c ls hz C0 hl G
  obtain ⟨hx, hb, hr, hml, hown, hts, hlk, hNw, hA⟩ := id C0
  have hown : s.vm.findClass RX4 = some m.cls := hown
  have hl : lv_has ls 3 [(0, .ref (gad w k)), (1, .int (iz x1))] := hl
  refine lv_iconst (v := iz 0) hx hb dX4_fill_0 rfl ?_
  refine lv_istore_n (lv' := [(2, .int (iz 0)), (0, .ref (gad w k)), (1, .int (iz x1))]) hx hb dX4_fill_1 rfl hl (by decide) rfl (fun ls hl => ?_)
  obtain ⟨n_, hv⟩ := hv
  exact lwS_X4_fill_2 SL (l := l) (p := p) (e := e) k nn hik hn9 hz C0 _ x1 n_ _ _ _ _ _ hv G (lv_sub hl [1, 2, 0] rfl)
set_option maxHeartbeats 4000000 in
set_option maxRecDepth 100000 in
theorem c4_init (l : Launch) (w : GW) (g0 : Nat → Nat) (σ : St) (sz : Nat) (k nn n x : Nat) (a : g0 k = x) {SL SL' : List Sh} (hsh : SL[k]? = some (1, 4, [2])) (hrf : rfOK SL = true) (hn : SL.length = n) (hnn : 0 < nn ∧ nn < 100000) {i : Int} (hi : i = (nn : Int)) (hSL : (SL ++ [(0, nn, [])]).set k (1, 4, [n + 3]) = SL') : Met l yX4_init (Cond.code yX4_init cX4_init 2 none :: wsL_law) ({ frames := 1, cells := 1, slots := nn, locals := 12 } : Room) (gPcC (gw w g0) SL σ sz [.ref x, .int (iz i)]) (gQc w g0 SL.length sz SL' (ur σ n (fun _ => 0))) 1 nn (gA (gw w g0) SL.length sz) := by
  refine g_metC (by decide) [.ref x, .int (iz i)] (Nat.le_of_ble_eq_true rfl) ?_
  intro p e s m below meth c ls hz C0 hin hao hl G
  obtain ⟨hx, hb, hr, hml, hown, hts, hlk, hNw, hA⟩ := id C0
  have hown : s.vm.findClass RX4 = some m.cls := hown
  have hl : lv_has ls 2 [(0, .ref x), (1, .int (iz i))] := hl
  have ir : inR i := ⟨by omega, by omega⟩
  have hkl : k < SL.length := (List.getElem?_eq_some_iff.mp hsh).1
  refine lv_aload_n hx hb dX4_init_0 rfl (lv_at hl 0 rfl) ?_
  refine g_objI hx hb hml hts hown wm_48 wm_10 wm_11 hl.1 (by exact Nat.le_refl 12) (by exact Nat.le_refl 1) dX4_init_1 ?_
  refine lv_aload_n hx hb dX4_init_4 rfl (lv_at hl 0 rfl) ?_
  refine lv_iload_n hx hb dX4_init_5 rfl (lv_at hl 1 rfl) ?_
  refine g_if_le (tgt := 13) hx hb ir dX4_init_6 (by decide) (fun q => absurd q (by omega)) (fun _ => ?_)
  refine lv_iload_n hx hb dX4_init_9 rfl (lv_at hl 1 rfl) ?_
  refine lv_goto (tgt := 14) hx hb dX4_init_10 (by decide) ?_
  refine g_newI (n := n) (SL' := SL ++ [(0, nn, [])]) hx hb hts G hA hn hrf wm_49 nn hi hnn.2 (Nat.le_refl 1) (by show 0 + nn ≤ nn; omega) dX4_init_14 rfl (fun g y H b hg G => ?_)
  have a := (hg k (by omega)).trans a
  refine g_putF (k := k) (ci := 4) (cs := [2]) hx hb hts hown 0 n inlX4 tyX4 tyX4_ok nmX4 G (by rw [List.getElem?_append_left hkl]; exact hsh) rfl (by decide) (by decide) wm_50 rfl hin rfl rfl rfl dX4_init_16 a b hSL (fun H locs G => ?_)
  exact g_cret (n0 := n) hx hb hr hlk hn hz hg G (Nat.le_refl 1) (by omega) dX4_init_19
def WL0 : List Sh := [(1, 6, [2, 2, 2, 2, 2, 2, 0, 0])]
def WL1 : List Sh := [(1, 6, [2, 2, 2, 2, 2, 2, 0, 0]), (1, 5, [2, 2, 2, 2, 0])]
def WL2 : List Sh := [(1, 6, [2, 2, 2, 2, 2, 2, 0, 0]), (1, 5, [2, 2, 2, 2, 0]), (1, 4, [2])]
def WL3 : List Sh := [(1, 6, [2, 2, 2, 2, 2, 2, 0, 0]), (1, 5, [2, 2, 2, 2, 0]), (1, 4, [6]), (0, 100, [])]
def WL4 : List Sh := [(1, 6, [2, 2, 2, 2, 2, 2, 0, 0]), (1, 5, [5, 2, 2, 2, 0]), (1, 4, [6]), (0, 100, [])]
def WL5 : List Sh := [(1, 6, [2, 2, 2, 2, 2, 2, 0, 0]), (1, 5, [5, 2, 2, 2, 0]), (1, 4, [6]), (0, 100, []), (1, 4, [2])]
def WL6 : List Sh := [(1, 6, [2, 2, 2, 2, 2, 2, 0, 0]), (1, 5, [5, 2, 2, 2, 0]), (1, 4, [6]), (0, 100, []), (1, 4, [8]), (0, 6, [])]
def WL7 : List Sh := [(1, 6, [2, 2, 2, 2, 2, 2, 0, 0]), (1, 5, [5, 7, 2, 2, 0]), (1, 4, [6]), (0, 100, []), (1, 4, [8]), (0, 6, [])]
def WL8 : List Sh := [(1, 6, [2, 2, 2, 2, 2, 2, 0, 0]), (1, 5, [5, 7, 2, 2, 0]), (1, 4, [6]), (0, 100, []), (1, 4, [8]), (0, 6, []), (1, 4, [2])]
def WL9 : List Sh := [(1, 6, [2, 2, 2, 2, 2, 2, 0, 0]), (1, 5, [5, 7, 2, 2, 0]), (1, 4, [6]), (0, 100, []), (1, 4, [8]), (0, 6, []), (1, 4, [10]), (0, 48, [])]
def WL10 : List Sh := [(1, 6, [2, 2, 2, 2, 2, 2, 0, 0]), (1, 5, [5, 7, 9, 2, 0]), (1, 4, [6]), (0, 100, []), (1, 4, [8]), (0, 6, []), (1, 4, [10]), (0, 48, [])]
def WL11 : List Sh := [(1, 6, [2, 2, 2, 2, 2, 2, 0, 0]), (1, 5, [5, 7, 9, 2, 0]), (1, 4, [6]), (0, 100, []), (1, 4, [8]), (0, 6, []), (1, 4, [10]), (0, 48, []), (1, 4, [2])]
def WL12 : List Sh := [(1, 6, [2, 2, 2, 2, 2, 2, 0, 0]), (1, 5, [5, 7, 9, 2, 0]), (1, 4, [6]), (0, 100, []), (1, 4, [8]), (0, 6, []), (1, 4, [10]), (0, 48, []), (1, 4, [12]), (0, 6, [])]
def WL13 : List Sh := [(1, 6, [2, 2, 2, 2, 2, 2, 0, 0]), (1, 5, [5, 7, 9, 11, 0]), (1, 4, [6]), (0, 100, []), (1, 4, [8]), (0, 6, []), (1, 4, [10]), (0, 48, []), (1, 4, [12]), (0, 6, [])]
def sg_State_1 (σ : St) : St := (eff_X4_fill 8 6 (-1) (up (ur (ur (ur (ur (ur (ur (ur (ur σ 2 (fun _ => 0)) 3 (fun _ => 0)) 4 (fun _ => 0)) 5 (fun _ => 0)) 6 (fun _ => 0)) 7 (fun _ => 0)) 8 (fun _ => 0)) 9 (fun _ => 0)) 1 4 0))
abbrev rc_State_1 : Room := ({ frames := 2, cells := 8, slots := 164, locals := 33 } : Room)
set_option maxHeartbeats 4000000 in
set_option maxRecDepth 100000 in
theorem cc_State_1 (l : Launch) (w : GW) (g0 : Nat → Nat) (σ : St) (sz : Nat) (x1 : Nat) (a1 : g0 1 = x1) : Met l yX5_init (Cond.code yX5_init cX5_init 1 none :: wsL_law) rc_State_1 (gPcC (gw w g0) WL1 σ sz [.ref x1]) (gQc w g0 WL1.length sz WL13 (sg_State_1 σ)) 8 164 (gA (gw w g0) WL1.length sz) := by
  refine g_metC (by decide) [.ref x1] (Nat.le_of_ble_eq_true rfl) ?_
  intro p e s m below meth c ls hz C0 hin hao hl G
  obtain ⟨hx, hb, hr, hml, hown, hts, hlk, hNw, hA⟩ := id C0
  have hown : s.vm.findClass RX5 = some m.cls := hown
  have hl : lv_has ls 1 [(0, .ref x1)] := hl
  have E : ∀ k, k < 2 → g0 k = g0 k := fun _ _ => rfl
  refine lv_aload_n hx hb dX5_init_0 rfl (lv_at hl 0 rfl) ?_
  refine g_objI hx hb hml hts hown wm_38 wm_10 wm_11 hl.1 (Nat.le_of_ble_eq_true rfl) (Nat.le_of_ble_eq_true rfl) dX5_init_1 ?_
  refine lv_aload_n hx hb dX5_init_4 rfl (lv_at hl 0 rfl) ?_
  refine g_newO (n := 2) (ci := 4) (C := RX4) (T := TX4) (N := 1) hx hb hts hown [2] inlX4 tyX4 tyX4_ok G hA rfl (by decide +kernel) rfl (fun j hj => by rcases (show j = 0 by omega) with rfl <;> rfl) (by decide) wm_39 wm_21 wm_22 (Nat.le_of_ble_eq_true rfl) (Nat.le_of_ble_eq_true rfl) dX5_init_5 (show _ = WL2 from rfl) (fun g x2 H a2 hg G => ?_)
  have a1 := (hg 1 (Nat.le_of_ble_eq_true rfl)).trans a1
  have E : ∀ k, k < 2 → g k = g0 k := fun k hk => (hg k (Nat.lt_of_lt_of_le hk (Nat.le_of_ble_eq_true rfl))).trans (E k hk)
  refine W.widen (k := 1) (n := 1) (Nat.le_of_ble_eq_true rfl) (Nat.le_of_ble_eq_true rfl) ?_
  refine lv_dup hx hb dX5_init_8 rfl ?_
  refine lv_bipush (v := iz 100) hx hb dX5_init_9 (by decide +kernel) ?_
  refine g_callC (n := 1) (rest := [.ref x2, .ref x1]) (n0 := 3) hx hb hml hts hown hNw hao hA G [.int (iz 100)] (c4_init l w _ _ _ 2 100 3 x2 a2 rfl (by decide +kernel) rfl (by decide) (i := 100) rfl (show _ = WL3 from rfl)) rfl wm_45 wm_46 wm_22 wm_47 rfl ⟨by decide +kernel, by decide +kernel, by decide +kernel⟩ ⟨rfl, rfl, (Nat.le_of_ble_eq_true rfl), (Nat.le_of_ble_eq_true rfl)⟩ rfl hl.1 (Nat.le_of_ble_eq_true rfl) rfl dX5_init_11 ⟨(Nat.le_of_ble_eq_true rfl), (Nat.le_of_ble_eq_true rfl)⟩ (fun g H locs hg G => ?_)
  have a1 := (hg 1 (Nat.le_of_ble_eq_true rfl)).trans a1
  have a2 := (hg 2 (Nat.le_of_ble_eq_true rfl)).trans a2
  have E : ∀ k, k < 2 → g k = g0 k := fun k hk => (hg k (Nat.lt_of_lt_of_le hk (Nat.le_of_ble_eq_true rfl))).trans (E k hk)
  refine W.widen (k := 2) (n := 101) (Nat.le_of_ble_eq_true rfl) (Nat.le_of_ble_eq_true rfl) ?_
  refine g_putF (k := 1) (ci := 5) (cs := [2, 2, 2, 2, 0]) hx hb hts hown 0 2 inlX5 tyX5 tyX5_ok nmX5 G rfl rfl (by decide) (by decide) wm_40 rfl hin rfl rfl rfl dX5_init_14 a1 a2 (show _ = WL4 from rfl) (fun H locs G => ?_)
  refine lv_aload_n hx hb dX5_init_17 rfl (lv_at hl 0 rfl) ?_
  refine g_newO (n := 4) (ci := 4) (C := RX4) (T := TX4) (N := 1) hx hb hts hown [2] inlX4 tyX4 tyX4_ok G hA rfl (by decide +kernel) rfl (fun j hj => by rcases (show j = 0 by omega) with rfl <;> rfl) (by decide) wm_39 wm_21 wm_22 (Nat.le_of_ble_eq_true rfl) (Nat.le_of_ble_eq_true rfl) dX5_init_18 (show _ = WL5 from rfl) (fun g x4 H a4 hg G => ?_)
  have a1 := (hg 1 (Nat.le_of_ble_eq_true rfl)).trans a1
  have a2 := (hg 2 (Nat.le_of_ble_eq_true rfl)).trans a2
  have E : ∀ k, k < 2 → g k = g0 k := fun k hk => (hg k (Nat.lt_of_lt_of_le hk (Nat.le_of_ble_eq_true rfl))).trans (E k hk)
  refine W.widen (k := 3) (n := 102) (Nat.le_of_ble_eq_true rfl) (Nat.le_of_ble_eq_true rfl) ?_
  refine lv_dup hx hb dX5_init_21 rfl ?_
  refine lv_bipush (v := iz 6) hx hb dX5_init_22 (by decide +kernel) ?_
  refine g_callC (n := 1) (rest := [.ref x4, .ref x1]) (n0 := 5) hx hb hml hts hown hNw hao hA G [.int (iz 6)] (c4_init l w _ _ _ 4 6 5 x4 a4 rfl (by decide +kernel) rfl (by decide) (i := 6) rfl (show _ = WL6 from rfl)) rfl wm_45 wm_46 wm_22 wm_47 rfl ⟨by decide +kernel, by decide +kernel, by decide +kernel⟩ ⟨rfl, rfl, (Nat.le_of_ble_eq_true rfl), (Nat.le_of_ble_eq_true rfl)⟩ rfl hl.1 (Nat.le_of_ble_eq_true rfl) rfl dX5_init_24 ⟨(Nat.le_of_ble_eq_true rfl), (Nat.le_of_ble_eq_true rfl)⟩ (fun g H locs hg G => ?_)
  have a1 := (hg 1 (Nat.le_of_ble_eq_true rfl)).trans a1
  have a2 := (hg 2 (Nat.le_of_ble_eq_true rfl)).trans a2
  have a4 := (hg 4 (Nat.le_of_ble_eq_true rfl)).trans a4
  have E : ∀ k, k < 2 → g k = g0 k := fun k hk => (hg k (Nat.lt_of_lt_of_le hk (Nat.le_of_ble_eq_true rfl))).trans (E k hk)
  refine W.widen (k := 4) (n := 108) (Nat.le_of_ble_eq_true rfl) (Nat.le_of_ble_eq_true rfl) ?_
  refine g_putF (k := 1) (ci := 5) (cs := [5, 2, 2, 2, 0]) hx hb hts hown 1 4 inlX5 tyX5 tyX5_ok nmX5 G rfl rfl (by decide) (by decide) wm_41 rfl hin rfl rfl rfl dX5_init_27 a1 a4 (show _ = WL7 from rfl) (fun H locs G => ?_)
  refine lv_aload_n hx hb dX5_init_30 rfl (lv_at hl 0 rfl) ?_
  refine g_newO (n := 6) (ci := 4) (C := RX4) (T := TX4) (N := 1) hx hb hts hown [2] inlX4 tyX4 tyX4_ok G hA rfl (by decide +kernel) rfl (fun j hj => by rcases (show j = 0 by omega) with rfl <;> rfl) (by decide) wm_39 wm_21 wm_22 (Nat.le_of_ble_eq_true rfl) (Nat.le_of_ble_eq_true rfl) dX5_init_31 (show _ = WL8 from rfl) (fun g x6 H a6 hg G => ?_)
  have a1 := (hg 1 (Nat.le_of_ble_eq_true rfl)).trans a1
  have a2 := (hg 2 (Nat.le_of_ble_eq_true rfl)).trans a2
  have a4 := (hg 4 (Nat.le_of_ble_eq_true rfl)).trans a4
  have E : ∀ k, k < 2 → g k = g0 k := fun k hk => (hg k (Nat.lt_of_lt_of_le hk (Nat.le_of_ble_eq_true rfl))).trans (E k hk)
  refine W.widen (k := 5) (n := 109) (Nat.le_of_ble_eq_true rfl) (Nat.le_of_ble_eq_true rfl) ?_
  refine lv_dup hx hb dX5_init_34 rfl ?_
  refine lv_bipush (v := iz 48) hx hb dX5_init_35 (by decide +kernel) ?_
  refine g_callC (n := 1) (rest := [.ref x6, .ref x1]) (n0 := 7) hx hb hml hts hown hNw hao hA G [.int (iz 48)] (c4_init l w _ _ _ 6 48 7 x6 a6 rfl (by decide +kernel) rfl (by decide) (i := 48) rfl (show _ = WL9 from rfl)) rfl wm_45 wm_46 wm_22 wm_47 rfl ⟨by decide +kernel, by decide +kernel, by decide +kernel⟩ ⟨rfl, rfl, (Nat.le_of_ble_eq_true rfl), (Nat.le_of_ble_eq_true rfl)⟩ rfl hl.1 (Nat.le_of_ble_eq_true rfl) rfl dX5_init_37 ⟨(Nat.le_of_ble_eq_true rfl), (Nat.le_of_ble_eq_true rfl)⟩ (fun g H locs hg G => ?_)
  have a1 := (hg 1 (Nat.le_of_ble_eq_true rfl)).trans a1
  have a2 := (hg 2 (Nat.le_of_ble_eq_true rfl)).trans a2
  have a4 := (hg 4 (Nat.le_of_ble_eq_true rfl)).trans a4
  have a6 := (hg 6 (Nat.le_of_ble_eq_true rfl)).trans a6
  have E : ∀ k, k < 2 → g k = g0 k := fun k hk => (hg k (Nat.lt_of_lt_of_le hk (Nat.le_of_ble_eq_true rfl))).trans (E k hk)
  refine W.widen (k := 6) (n := 157) (Nat.le_of_ble_eq_true rfl) (Nat.le_of_ble_eq_true rfl) ?_
  refine g_putF (k := 1) (ci := 5) (cs := [5, 7, 2, 2, 0]) hx hb hts hown 2 6 inlX5 tyX5 tyX5_ok nmX5 G rfl rfl (by decide) (by decide) wm_42 rfl hin rfl rfl rfl dX5_init_40 a1 a6 (show _ = WL10 from rfl) (fun H locs G => ?_)
  refine lv_aload_n hx hb dX5_init_43 rfl (lv_at hl 0 rfl) ?_
  refine g_newO (n := 8) (ci := 4) (C := RX4) (T := TX4) (N := 1) hx hb hts hown [2] inlX4 tyX4 tyX4_ok G hA rfl (by decide +kernel) rfl (fun j hj => by rcases (show j = 0 by omega) with rfl <;> rfl) (by decide) wm_39 wm_21 wm_22 (Nat.le_of_ble_eq_true rfl) (Nat.le_of_ble_eq_true rfl) dX5_init_44 (show _ = WL11 from rfl) (fun g x8 H a8 hg G => ?_)
  have a1 := (hg 1 (Nat.le_of_ble_eq_true rfl)).trans a1
  have a2 := (hg 2 (Nat.le_of_ble_eq_true rfl)).trans a2
  have a4 := (hg 4 (Nat.le_of_ble_eq_true rfl)).trans a4
  have a6 := (hg 6 (Nat.le_of_ble_eq_true rfl)).trans a6
  have E : ∀ k, k < 2 → g k = g0 k := fun k hk => (hg k (Nat.lt_of_lt_of_le hk (Nat.le_of_ble_eq_true rfl))).trans (E k hk)
  refine W.widen (k := 7) (n := 158) (Nat.le_of_ble_eq_true rfl) (Nat.le_of_ble_eq_true rfl) ?_
  refine lv_dup hx hb dX5_init_47 rfl ?_
  refine lv_bipush (v := iz 6) hx hb dX5_init_48 (by decide +kernel) ?_
  refine g_callC (n := 1) (rest := [.ref x8, .ref x1]) (n0 := 9) hx hb hml hts hown hNw hao hA G [.int (iz 6)] (c4_init l w _ _ _ 8 6 9 x8 a8 rfl (by decide +kernel) rfl (by decide) (i := 6) rfl (show _ = WL12 from rfl)) rfl wm_45 wm_46 wm_22 wm_47 rfl ⟨by decide +kernel, by decide +kernel, by decide +kernel⟩ ⟨rfl, rfl, (Nat.le_of_ble_eq_true rfl), (Nat.le_of_ble_eq_true rfl)⟩ rfl hl.1 (Nat.le_of_ble_eq_true rfl) rfl dX5_init_50 ⟨(Nat.le_of_ble_eq_true rfl), (Nat.le_of_ble_eq_true rfl)⟩ (fun g H locs hg G => ?_)
  have a1 := (hg 1 (Nat.le_of_ble_eq_true rfl)).trans a1
  have a2 := (hg 2 (Nat.le_of_ble_eq_true rfl)).trans a2
  have a4 := (hg 4 (Nat.le_of_ble_eq_true rfl)).trans a4
  have a6 := (hg 6 (Nat.le_of_ble_eq_true rfl)).trans a6
  have a8 := (hg 8 (Nat.le_of_ble_eq_true rfl)).trans a8
  have E : ∀ k, k < 2 → g k = g0 k := fun k hk => (hg k (Nat.lt_of_lt_of_le hk (Nat.le_of_ble_eq_true rfl))).trans (E k hk)
  refine W.widen (k := 8) (n := 164) (Nat.le_of_ble_eq_true rfl) (Nat.le_of_ble_eq_true rfl) ?_
  refine g_putF (k := 1) (ci := 5) (cs := [5, 7, 9, 2, 0]) hx hb hts hown 3 8 inlX5 tyX5 tyX5_ok nmX5 G rfl rfl (by decide) (by decide) wm_43 rfl hin rfl rfl rfl dX5_init_53 a1 a8 (show _ = WL13 from rfl) (fun H locs G => ?_)
  refine lv_aload_n hx hb dX5_init_56 rfl (lv_at hl 0 rfl) ?_
  refine lv_iconst (v := iz 0) hx hb dX5_init_57 rfl ?_
  refine g_putA (k := 1) (ci := 5) (cs := [5, 7, 9, 11, 0]) hx hb hts hown 4 inlX5 tyX5 tyX5_ok nmX5 G rfl rfl (by decide) rfl wm_44 rfl rfl rfl dX5_init_58 a1 (fun H locs G => ?_)
  refine lv_aload_n hx hb dX5_init_61 rfl (lv_at hl 0 rfl) ?_
  refine g_getA (k := 1) (ci := 5) (cs := [5, 7, 9, 11, 0]) hx hb hts hown 3 8 inlX5 G rfl rfl (by decide) rfl wm_43 dX5_init_62 a1 a8 ?_
  refine lv_iconst (v := iz (-1)) hx hb dX5_init_65 rfl ?_
  refine g_callVv (w := gw w g) (rest := []) hx hb hml hts hown hNw hA G [.int (iz (-1))] (cS_X4_fill WL13 l (gw w g) _ _ 8 6 ⟨rfl, rfl⟩ (by decide) (-1) trivial) (show WL13[8]? = some (1, 4, [12]) from rfl) rfl wm_51 wm_52 wm_53 wm_22 wm_54 hd_X4_fill ⟨rfl, rfl, (Nat.le_of_ble_eq_true rfl), (Nat.le_of_ble_eq_true rfl)⟩ rfl hl.1 (Nat.le_of_ble_eq_true rfl) (by show _ = [Value.int (iz (-1)), Value.ref (g 8)]; rw [a8]) dX5_init_66 ⟨(Nat.le_of_ble_eq_true rfl), (Nat.le_of_ble_eq_true rfl)⟩ (fun s1 H locs h G => ?_)
  rw [h] at G
  exact g_cret (n0 := 2) hx hb hr hlk rfl hz E G (Nat.le_of_ble_eq_true rfl) (Nat.le_of_ble_eq_true rfl) dX5_init_69
def WL14 : List Sh := [(1, 6, [4, 2, 2, 2, 2, 2, 0, 0]), (1, 5, [5, 7, 9, 11, 0]), (1, 4, [6]), (0, 100, []), (1, 4, [8]), (0, 6, []), (1, 4, [10]), (0, 48, []), (1, 4, [12]), (0, 6, [])]
def WL15 : List Sh := [(1, 6, [4, 2, 2, 2, 2, 2, 0, 0]), (1, 5, [5, 7, 9, 11, 0]), (1, 4, [6]), (0, 100, []), (1, 4, [8]), (0, 6, []), (1, 4, [10]), (0, 48, []), (1, 4, [12]), (0, 6, []), (1, 1, [2, 0, 0])]
def WL16 : List Sh := [(1, 6, [4, 2, 2, 2, 2, 2, 0, 0]), (1, 5, [5, 7, 9, 11, 0]), (1, 4, [6]), (0, 100, []), (1, 4, [8]), (0, 6, []), (1, 4, [10]), (0, 48, []), (1, 4, [12]), (0, 6, []), (1, 1, [2, 0, 0]), (2, 4, [2, 2, 2, 2])]
def WL17 : List Sh := [(1, 6, [4, 2, 2, 2, 2, 2, 0, 0]), (1, 5, [5, 7, 9, 11, 0]), (1, 4, [6]), (0, 100, []), (1, 4, [8]), (0, 6, []), (1, 4, [10]), (0, 48, []), (1, 4, [12]), (0, 6, []), (1, 1, [2, 0, 0]), (2, 4, [2, 2, 2, 2]), (1, 5, [2, 2, 2, 2, 0])]
def WL18 : List Sh := [(1, 6, [4, 2, 2, 2, 2, 2, 0, 0]), (1, 5, [5, 7, 9, 11, 0]), (1, 4, [6]), (0, 100, []), (1, 4, [8]), (0, 6, []), (1, 4, [10]), (0, 48, []), (1, 4, [12]), (0, 6, []), (1, 1, [2, 0, 0]), (2, 4, [2, 2, 2, 2]), (1, 5, [2, 2, 2, 2, 0]), (1, 4, [2])]
def WL19 : List Sh := [(1, 6, [4, 2, 2, 2, 2, 2, 0, 0]), (1, 5, [5, 7, 9, 11, 0]), (1, 4, [6]), (0, 100, []), (1, 4, [8]), (0, 6, []), (1, 4, [10]), (0, 48, []), (1, 4, [12]), (0, 6, []), (1, 1, [2, 0, 0]), (2, 4, [2, 2, 2, 2]), (1, 5, [2, 2, 2, 2, 0]), (1, 4, [17]), (0, 100, [])]
def WL20 : List Sh := [(1, 6, [4, 2, 2, 2, 2, 2, 0, 0]), (1, 5, [5, 7, 9, 11, 0]), (1, 4, [6]), (0, 100, []), (1, 4, [8]), (0, 6, []), (1, 4, [10]), (0, 48, []), (1, 4, [12]), (0, 6, []), (1, 1, [2, 0, 0]), (2, 4, [2, 2, 2, 2]), (1, 5, [16, 2, 2, 2, 0]), (1, 4, [17]), (0, 100, [])]
def WL21 : List Sh := [(1, 6, [4, 2, 2, 2, 2, 2, 0, 0]), (1, 5, [5, 7, 9, 11, 0]), (1, 4, [6]), (0, 100, []), (1, 4, [8]), (0, 6, []), (1, 4, [10]), (0, 48, []), (1, 4, [12]), (0, 6, []), (1, 1, [2, 0, 0]), (2, 4, [2, 2, 2, 2]), (1, 5, [16, 2, 2, 2, 0]), (1, 4, [17]), (0, 100, []), (1, 4, [2])]
def WL22 : List Sh := [(1, 6, [4, 2, 2, 2, 2, 2, 0, 0]), (1, 5, [5, 7, 9, 11, 0]), (1, 4, [6]), (0, 100, []), (1, 4, [8]), (0, 6, []), (1, 4, [10]), (0, 48, []), (1, 4, [12]), (0, 6, []), (1, 1, [2, 0, 0]), (2, 4, [2, 2, 2, 2]), (1, 5, [16, 2, 2, 2, 0]), (1, 4, [17]), (0, 100, []), (1, 4, [19]), (0, 6, [])]
def WL23 : List Sh := [(1, 6, [4, 2, 2, 2, 2, 2, 0, 0]), (1, 5, [5, 7, 9, 11, 0]), (1, 4, [6]), (0, 100, []), (1, 4, [8]), (0, 6, []), (1, 4, [10]), (0, 48, []), (1, 4, [12]), (0, 6, []), (1, 1, [2, 0, 0]), (2, 4, [2, 2, 2, 2]), (1, 5, [16, 18, 2, 2, 0]), (1, 4, [17]), (0, 100, []), (1, 4, [19]), (0, 6, [])]
def WL24 : List Sh := [(1, 6, [4, 2, 2, 2, 2, 2, 0, 0]), (1, 5, [5, 7, 9, 11, 0]), (1, 4, [6]), (0, 100, []), (1, 4, [8]), (0, 6, []), (1, 4, [10]), (0, 48, []), (1, 4, [12]), (0, 6, []), (1, 1, [2, 0, 0]), (2, 4, [2, 2, 2, 2]), (1, 5, [16, 18, 2, 2, 0]), (1, 4, [17]), (0, 100, []), (1, 4, [19]), (0, 6, []), (1, 4, [2])]
def WL25 : List Sh := [(1, 6, [4, 2, 2, 2, 2, 2, 0, 0]), (1, 5, [5, 7, 9, 11, 0]), (1, 4, [6]), (0, 100, []), (1, 4, [8]), (0, 6, []), (1, 4, [10]), (0, 48, []), (1, 4, [12]), (0, 6, []), (1, 1, [2, 0, 0]), (2, 4, [2, 2, 2, 2]), (1, 5, [16, 18, 2, 2, 0]), (1, 4, [17]), (0, 100, []), (1, 4, [19]), (0, 6, []), (1, 4, [21]), (0, 48, [])]
def WL26 : List Sh := [(1, 6, [4, 2, 2, 2, 2, 2, 0, 0]), (1, 5, [5, 7, 9, 11, 0]), (1, 4, [6]), (0, 100, []), (1, 4, [8]), (0, 6, []), (1, 4, [10]), (0, 48, []), (1, 4, [12]), (0, 6, []), (1, 1, [2, 0, 0]), (2, 4, [2, 2, 2, 2]), (1, 5, [16, 18, 20, 2, 0]), (1, 4, [17]), (0, 100, []), (1, 4, [19]), (0, 6, []), (1, 4, [21]), (0, 48, [])]
def WL27 : List Sh := [(1, 6, [4, 2, 2, 2, 2, 2, 0, 0]), (1, 5, [5, 7, 9, 11, 0]), (1, 4, [6]), (0, 100, []), (1, 4, [8]), (0, 6, []), (1, 4, [10]), (0, 48, []), (1, 4, [12]), (0, 6, []), (1, 1, [2, 0, 0]), (2, 4, [2, 2, 2, 2]), (1, 5, [16, 18, 20, 2, 0]), (1, 4, [17]), (0, 100, []), (1, 4, [19]), (0, 6, []), (1, 4, [21]), (0, 48, []), (1, 4, [2])]
def WL28 : List Sh := [(1, 6, [4, 2, 2, 2, 2, 2, 0, 0]), (1, 5, [5, 7, 9, 11, 0]), (1, 4, [6]), (0, 100, []), (1, 4, [8]), (0, 6, []), (1, 4, [10]), (0, 48, []), (1, 4, [12]), (0, 6, []), (1, 1, [2, 0, 0]), (2, 4, [2, 2, 2, 2]), (1, 5, [16, 18, 20, 2, 0]), (1, 4, [17]), (0, 100, []), (1, 4, [19]), (0, 6, []), (1, 4, [21]), (0, 48, []), (1, 4, [23]), (0, 6, [])]
def WL29 : List Sh := [(1, 6, [4, 2, 2, 2, 2, 2, 0, 0]), (1, 5, [5, 7, 9, 11, 0]), (1, 4, [6]), (0, 100, []), (1, 4, [8]), (0, 6, []), (1, 4, [10]), (0, 48, []), (1, 4, [12]), (0, 6, []), (1, 1, [2, 0, 0]), (2, 4, [2, 2, 2, 2]), (1, 5, [16, 18, 20, 22, 0]), (1, 4, [17]), (0, 100, []), (1, 4, [19]), (0, 6, []), (1, 4, [21]), (0, 48, []), (1, 4, [23]), (0, 6, [])]
def sg_State_12 (σ : St) : St := (eff_X4_fill 19 6 (-1) (up (ur (ur (ur (ur (ur (ur (ur (ur σ 13 (fun _ => 0)) 14 (fun _ => 0)) 15 (fun _ => 0)) 16 (fun _ => 0)) 17 (fun _ => 0)) 18 (fun _ => 0)) 19 (fun _ => 0)) 20 (fun _ => 0)) 12 4 0))
abbrev rc_State_12 : Room := ({ frames := 2, cells := 8, slots := 164, locals := 33 } : Room)
set_option maxHeartbeats 4000000 in
set_option maxRecDepth 100000 in
theorem cc_State_12 (l : Launch) (w : GW) (g0 : Nat → Nat) (σ : St) (sz : Nat) (x12 : Nat) (a12 : g0 12 = x12) : Met l yX5_init (Cond.code yX5_init cX5_init 1 none :: wsL_law) rc_State_12 (gPcC (gw w g0) WL17 σ sz [.ref x12]) (gQc w g0 WL17.length sz WL29 (sg_State_12 σ)) 8 164 (gA (gw w g0) WL17.length sz) := by
  refine g_metC (by decide) [.ref x12] (Nat.le_of_ble_eq_true rfl) ?_
  intro p e s m below meth c ls hz C0 hin hao hl G
  obtain ⟨hx, hb, hr, hml, hown, hts, hlk, hNw, hA⟩ := id C0
  have hown : s.vm.findClass RX5 = some m.cls := hown
  have hl : lv_has ls 1 [(0, .ref x12)] := hl
  have E : ∀ k, k < 13 → g0 k = g0 k := fun _ _ => rfl
  refine lv_aload_n hx hb dX5_init_0 rfl (lv_at hl 0 rfl) ?_
  refine g_objI hx hb hml hts hown wm_38 wm_10 wm_11 hl.1 (Nat.le_of_ble_eq_true rfl) (Nat.le_of_ble_eq_true rfl) dX5_init_1 ?_
  refine lv_aload_n hx hb dX5_init_4 rfl (lv_at hl 0 rfl) ?_
  refine g_newO (n := 13) (ci := 4) (C := RX4) (T := TX4) (N := 1) hx hb hts hown [2] inlX4 tyX4 tyX4_ok G hA rfl (by decide +kernel) rfl (fun j hj => by rcases (show j = 0 by omega) with rfl <;> rfl) (by decide) wm_39 wm_21 wm_22 (Nat.le_of_ble_eq_true rfl) (Nat.le_of_ble_eq_true rfl) dX5_init_5 (show _ = WL18 from rfl) (fun g x13 H a13 hg G => ?_)
  have a12 := (hg 12 (Nat.le_of_ble_eq_true rfl)).trans a12
  have E : ∀ k, k < 13 → g k = g0 k := fun k hk => (hg k (Nat.lt_of_lt_of_le hk (Nat.le_of_ble_eq_true rfl))).trans (E k hk)
  refine W.widen (k := 1) (n := 1) (Nat.le_of_ble_eq_true rfl) (Nat.le_of_ble_eq_true rfl) ?_
  refine lv_dup hx hb dX5_init_8 rfl ?_
  refine lv_bipush (v := iz 100) hx hb dX5_init_9 (by decide +kernel) ?_
  refine g_callC (n := 1) (rest := [.ref x13, .ref x12]) (n0 := 14) hx hb hml hts hown hNw hao hA G [.int (iz 100)] (c4_init l w _ _ _ 13 100 14 x13 a13 rfl (by decide +kernel) rfl (by decide) (i := 100) rfl (show _ = WL19 from rfl)) rfl wm_45 wm_46 wm_22 wm_47 rfl ⟨by decide +kernel, by decide +kernel, by decide +kernel⟩ ⟨rfl, rfl, (Nat.le_of_ble_eq_true rfl), (Nat.le_of_ble_eq_true rfl)⟩ rfl hl.1 (Nat.le_of_ble_eq_true rfl) rfl dX5_init_11 ⟨(Nat.le_of_ble_eq_true rfl), (Nat.le_of_ble_eq_true rfl)⟩ (fun g H locs hg G => ?_)
  have a12 := (hg 12 (Nat.le_of_ble_eq_true rfl)).trans a12
  have a13 := (hg 13 (Nat.le_of_ble_eq_true rfl)).trans a13
  have E : ∀ k, k < 13 → g k = g0 k := fun k hk => (hg k (Nat.lt_of_lt_of_le hk (Nat.le_of_ble_eq_true rfl))).trans (E k hk)
  refine W.widen (k := 2) (n := 101) (Nat.le_of_ble_eq_true rfl) (Nat.le_of_ble_eq_true rfl) ?_
  refine g_putF (k := 12) (ci := 5) (cs := [2, 2, 2, 2, 0]) hx hb hts hown 0 13 inlX5 tyX5 tyX5_ok nmX5 G rfl rfl (by decide) (by decide) wm_40 rfl hin rfl rfl rfl dX5_init_14 a12 a13 (show _ = WL20 from rfl) (fun H locs G => ?_)
  refine lv_aload_n hx hb dX5_init_17 rfl (lv_at hl 0 rfl) ?_
  refine g_newO (n := 15) (ci := 4) (C := RX4) (T := TX4) (N := 1) hx hb hts hown [2] inlX4 tyX4 tyX4_ok G hA rfl (by decide +kernel) rfl (fun j hj => by rcases (show j = 0 by omega) with rfl <;> rfl) (by decide) wm_39 wm_21 wm_22 (Nat.le_of_ble_eq_true rfl) (Nat.le_of_ble_eq_true rfl) dX5_init_18 (show _ = WL21 from rfl) (fun g x15 H a15 hg G => ?_)
  have a12 := (hg 12 (Nat.le_of_ble_eq_true rfl)).trans a12
  have a13 := (hg 13 (Nat.le_of_ble_eq_true rfl)).trans a13
  have E : ∀ k, k < 13 → g k = g0 k := fun k hk => (hg k (Nat.lt_of_lt_of_le hk (Nat.le_of_ble_eq_true rfl))).trans (E k hk)
  refine W.widen (k := 3) (n := 102) (Nat.le_of_ble_eq_true rfl) (Nat.le_of_ble_eq_true rfl) ?_
  refine lv_dup hx hb dX5_init_21 rfl ?_
  refine lv_bipush (v := iz 6) hx hb dX5_init_22 (by decide +kernel) ?_
  refine g_callC (n := 1) (rest := [.ref x15, .ref x12]) (n0 := 16) hx hb hml hts hown hNw hao hA G [.int (iz 6)] (c4_init l w _ _ _ 15 6 16 x15 a15 rfl (by decide +kernel) rfl (by decide) (i := 6) rfl (show _ = WL22 from rfl)) rfl wm_45 wm_46 wm_22 wm_47 rfl ⟨by decide +kernel, by decide +kernel, by decide +kernel⟩ ⟨rfl, rfl, (Nat.le_of_ble_eq_true rfl), (Nat.le_of_ble_eq_true rfl)⟩ rfl hl.1 (Nat.le_of_ble_eq_true rfl) rfl dX5_init_24 ⟨(Nat.le_of_ble_eq_true rfl), (Nat.le_of_ble_eq_true rfl)⟩ (fun g H locs hg G => ?_)
  have a12 := (hg 12 (Nat.le_of_ble_eq_true rfl)).trans a12
  have a13 := (hg 13 (Nat.le_of_ble_eq_true rfl)).trans a13
  have a15 := (hg 15 (Nat.le_of_ble_eq_true rfl)).trans a15
  have E : ∀ k, k < 13 → g k = g0 k := fun k hk => (hg k (Nat.lt_of_lt_of_le hk (Nat.le_of_ble_eq_true rfl))).trans (E k hk)
  refine W.widen (k := 4) (n := 108) (Nat.le_of_ble_eq_true rfl) (Nat.le_of_ble_eq_true rfl) ?_
  refine g_putF (k := 12) (ci := 5) (cs := [16, 2, 2, 2, 0]) hx hb hts hown 1 15 inlX5 tyX5 tyX5_ok nmX5 G rfl rfl (by decide) (by decide) wm_41 rfl hin rfl rfl rfl dX5_init_27 a12 a15 (show _ = WL23 from rfl) (fun H locs G => ?_)
  refine lv_aload_n hx hb dX5_init_30 rfl (lv_at hl 0 rfl) ?_
  refine g_newO (n := 17) (ci := 4) (C := RX4) (T := TX4) (N := 1) hx hb hts hown [2] inlX4 tyX4 tyX4_ok G hA rfl (by decide +kernel) rfl (fun j hj => by rcases (show j = 0 by omega) with rfl <;> rfl) (by decide) wm_39 wm_21 wm_22 (Nat.le_of_ble_eq_true rfl) (Nat.le_of_ble_eq_true rfl) dX5_init_31 (show _ = WL24 from rfl) (fun g x17 H a17 hg G => ?_)
  have a12 := (hg 12 (Nat.le_of_ble_eq_true rfl)).trans a12
  have a13 := (hg 13 (Nat.le_of_ble_eq_true rfl)).trans a13
  have a15 := (hg 15 (Nat.le_of_ble_eq_true rfl)).trans a15
  have E : ∀ k, k < 13 → g k = g0 k := fun k hk => (hg k (Nat.lt_of_lt_of_le hk (Nat.le_of_ble_eq_true rfl))).trans (E k hk)
  refine W.widen (k := 5) (n := 109) (Nat.le_of_ble_eq_true rfl) (Nat.le_of_ble_eq_true rfl) ?_
  refine lv_dup hx hb dX5_init_34 rfl ?_
  refine lv_bipush (v := iz 48) hx hb dX5_init_35 (by decide +kernel) ?_
  refine g_callC (n := 1) (rest := [.ref x17, .ref x12]) (n0 := 18) hx hb hml hts hown hNw hao hA G [.int (iz 48)] (c4_init l w _ _ _ 17 48 18 x17 a17 rfl (by decide +kernel) rfl (by decide) (i := 48) rfl (show _ = WL25 from rfl)) rfl wm_45 wm_46 wm_22 wm_47 rfl ⟨by decide +kernel, by decide +kernel, by decide +kernel⟩ ⟨rfl, rfl, (Nat.le_of_ble_eq_true rfl), (Nat.le_of_ble_eq_true rfl)⟩ rfl hl.1 (Nat.le_of_ble_eq_true rfl) rfl dX5_init_37 ⟨(Nat.le_of_ble_eq_true rfl), (Nat.le_of_ble_eq_true rfl)⟩ (fun g H locs hg G => ?_)
  have a12 := (hg 12 (Nat.le_of_ble_eq_true rfl)).trans a12
  have a13 := (hg 13 (Nat.le_of_ble_eq_true rfl)).trans a13
  have a15 := (hg 15 (Nat.le_of_ble_eq_true rfl)).trans a15
  have a17 := (hg 17 (Nat.le_of_ble_eq_true rfl)).trans a17
  have E : ∀ k, k < 13 → g k = g0 k := fun k hk => (hg k (Nat.lt_of_lt_of_le hk (Nat.le_of_ble_eq_true rfl))).trans (E k hk)
  refine W.widen (k := 6) (n := 157) (Nat.le_of_ble_eq_true rfl) (Nat.le_of_ble_eq_true rfl) ?_
  refine g_putF (k := 12) (ci := 5) (cs := [16, 18, 2, 2, 0]) hx hb hts hown 2 17 inlX5 tyX5 tyX5_ok nmX5 G rfl rfl (by decide) (by decide) wm_42 rfl hin rfl rfl rfl dX5_init_40 a12 a17 (show _ = WL26 from rfl) (fun H locs G => ?_)
  refine lv_aload_n hx hb dX5_init_43 rfl (lv_at hl 0 rfl) ?_
  refine g_newO (n := 19) (ci := 4) (C := RX4) (T := TX4) (N := 1) hx hb hts hown [2] inlX4 tyX4 tyX4_ok G hA rfl (by decide +kernel) rfl (fun j hj => by rcases (show j = 0 by omega) with rfl <;> rfl) (by decide) wm_39 wm_21 wm_22 (Nat.le_of_ble_eq_true rfl) (Nat.le_of_ble_eq_true rfl) dX5_init_44 (show _ = WL27 from rfl) (fun g x19 H a19 hg G => ?_)
  have a12 := (hg 12 (Nat.le_of_ble_eq_true rfl)).trans a12
  have a13 := (hg 13 (Nat.le_of_ble_eq_true rfl)).trans a13
  have a15 := (hg 15 (Nat.le_of_ble_eq_true rfl)).trans a15
  have a17 := (hg 17 (Nat.le_of_ble_eq_true rfl)).trans a17
  have E : ∀ k, k < 13 → g k = g0 k := fun k hk => (hg k (Nat.lt_of_lt_of_le hk (Nat.le_of_ble_eq_true rfl))).trans (E k hk)
  refine W.widen (k := 7) (n := 158) (Nat.le_of_ble_eq_true rfl) (Nat.le_of_ble_eq_true rfl) ?_
  refine lv_dup hx hb dX5_init_47 rfl ?_
  refine lv_bipush (v := iz 6) hx hb dX5_init_48 (by decide +kernel) ?_
  refine g_callC (n := 1) (rest := [.ref x19, .ref x12]) (n0 := 20) hx hb hml hts hown hNw hao hA G [.int (iz 6)] (c4_init l w _ _ _ 19 6 20 x19 a19 rfl (by decide +kernel) rfl (by decide) (i := 6) rfl (show _ = WL28 from rfl)) rfl wm_45 wm_46 wm_22 wm_47 rfl ⟨by decide +kernel, by decide +kernel, by decide +kernel⟩ ⟨rfl, rfl, (Nat.le_of_ble_eq_true rfl), (Nat.le_of_ble_eq_true rfl)⟩ rfl hl.1 (Nat.le_of_ble_eq_true rfl) rfl dX5_init_50 ⟨(Nat.le_of_ble_eq_true rfl), (Nat.le_of_ble_eq_true rfl)⟩ (fun g H locs hg G => ?_)
  have a12 := (hg 12 (Nat.le_of_ble_eq_true rfl)).trans a12
  have a13 := (hg 13 (Nat.le_of_ble_eq_true rfl)).trans a13
  have a15 := (hg 15 (Nat.le_of_ble_eq_true rfl)).trans a15
  have a17 := (hg 17 (Nat.le_of_ble_eq_true rfl)).trans a17
  have a19 := (hg 19 (Nat.le_of_ble_eq_true rfl)).trans a19
  have E : ∀ k, k < 13 → g k = g0 k := fun k hk => (hg k (Nat.lt_of_lt_of_le hk (Nat.le_of_ble_eq_true rfl))).trans (E k hk)
  refine W.widen (k := 8) (n := 164) (Nat.le_of_ble_eq_true rfl) (Nat.le_of_ble_eq_true rfl) ?_
  refine g_putF (k := 12) (ci := 5) (cs := [16, 18, 20, 2, 0]) hx hb hts hown 3 19 inlX5 tyX5 tyX5_ok nmX5 G rfl rfl (by decide) (by decide) wm_43 rfl hin rfl rfl rfl dX5_init_53 a12 a19 (show _ = WL29 from rfl) (fun H locs G => ?_)
  refine lv_aload_n hx hb dX5_init_56 rfl (lv_at hl 0 rfl) ?_
  refine lv_iconst (v := iz 0) hx hb dX5_init_57 rfl ?_
  refine g_putA (k := 12) (ci := 5) (cs := [16, 18, 20, 22, 0]) hx hb hts hown 4 inlX5 tyX5 tyX5_ok nmX5 G rfl rfl (by decide) rfl wm_44 rfl rfl rfl dX5_init_58 a12 (fun H locs G => ?_)
  refine lv_aload_n hx hb dX5_init_61 rfl (lv_at hl 0 rfl) ?_
  refine g_getA (k := 12) (ci := 5) (cs := [16, 18, 20, 22, 0]) hx hb hts hown 3 19 inlX5 G rfl rfl (by decide) rfl wm_43 dX5_init_62 a12 a19 ?_
  refine lv_iconst (v := iz (-1)) hx hb dX5_init_65 rfl ?_
  refine g_callVv (w := gw w g) (rest := []) hx hb hml hts hown hNw hA G [.int (iz (-1))] (cS_X4_fill WL29 l (gw w g) _ _ 19 6 ⟨rfl, rfl⟩ (by decide) (-1) trivial) (show WL29[19]? = some (1, 4, [23]) from rfl) rfl wm_51 wm_52 wm_53 wm_22 wm_54 hd_X4_fill ⟨rfl, rfl, (Nat.le_of_ble_eq_true rfl), (Nat.le_of_ble_eq_true rfl)⟩ rfl hl.1 (Nat.le_of_ble_eq_true rfl) (by show _ = [Value.int (iz (-1)), Value.ref (g 19)]; rw [a19]) dX5_init_66 ⟨(Nat.le_of_ble_eq_true rfl), (Nat.le_of_ble_eq_true rfl)⟩ (fun s1 H locs h G => ?_)
  rw [h] at G
  exact g_cret (n0 := 13) hx hb hr hlk rfl hz E G (Nat.le_of_ble_eq_true rfl) (Nat.le_of_ble_eq_true rfl) dX5_init_69
def WL30 : List Sh := [(1, 6, [4, 2, 2, 2, 2, 2, 0, 0]), (1, 5, [5, 7, 9, 11, 0]), (1, 4, [6]), (0, 100, []), (1, 4, [8]), (0, 6, []), (1, 4, [10]), (0, 48, []), (1, 4, [12]), (0, 6, []), (1, 1, [2, 0, 0]), (2, 4, [15, 2, 2, 2]), (1, 5, [16, 18, 20, 22, 0]), (1, 4, [17]), (0, 100, []), (1, 4, [19]), (0, 6, []), (1, 4, [21]), (0, 48, []), (1, 4, [23]), (0, 6, [])]
def WL31 : List Sh := [(1, 6, [4, 2, 2, 2, 2, 2, 0, 0]), (1, 5, [5, 7, 9, 11, 0]), (1, 4, [6]), (0, 100, []), (1, 4, [8]), (0, 6, []), (1, 4, [10]), (0, 48, []), (1, 4, [12]), (0, 6, []), (1, 1, [2, 0, 0]), (2, 4, [15, 2, 2, 2]), (1, 5, [16, 18, 20, 22, 0]), (1, 4, [17]), (0, 100, []), (1, 4, [19]), (0, 6, []), (1, 4, [21]), (0, 48, []), (1, 4, [23]), (0, 6, []), (1, 5, [2, 2, 2, 2, 0])]
def WL32 : List Sh := [(1, 6, [4, 2, 2, 2, 2, 2, 0, 0]), (1, 5, [5, 7, 9, 11, 0]), (1, 4, [6]), (0, 100, []), (1, 4, [8]), (0, 6, []), (1, 4, [10]), (0, 48, []), (1, 4, [12]), (0, 6, []), (1, 1, [2, 0, 0]), (2, 4, [15, 2, 2, 2]), (1, 5, [16, 18, 20, 22, 0]), (1, 4, [17]), (0, 100, []), (1, 4, [19]), (0, 6, []), (1, 4, [21]), (0, 48, []), (1, 4, [23]), (0, 6, []), (1, 5, [2, 2, 2, 2, 0]), (1, 4, [2])]
def WL33 : List Sh := [(1, 6, [4, 2, 2, 2, 2, 2, 0, 0]), (1, 5, [5, 7, 9, 11, 0]), (1, 4, [6]), (0, 100, []), (1, 4, [8]), (0, 6, []), (1, 4, [10]), (0, 48, []), (1, 4, [12]), (0, 6, []), (1, 1, [2, 0, 0]), (2, 4, [15, 2, 2, 2]), (1, 5, [16, 18, 20, 22, 0]), (1, 4, [17]), (0, 100, []), (1, 4, [19]), (0, 6, []), (1, 4, [21]), (0, 48, []), (1, 4, [23]), (0, 6, []), (1, 5, [2, 2, 2, 2, 0]), (1, 4, [26]), (0, 100, [])]
def WL34 : List Sh := [(1, 6, [4, 2, 2, 2, 2, 2, 0, 0]), (1, 5, [5, 7, 9, 11, 0]), (1, 4, [6]), (0, 100, []), (1, 4, [8]), (0, 6, []), (1, 4, [10]), (0, 48, []), (1, 4, [12]), (0, 6, []), (1, 1, [2, 0, 0]), (2, 4, [15, 2, 2, 2]), (1, 5, [16, 18, 20, 22, 0]), (1, 4, [17]), (0, 100, []), (1, 4, [19]), (0, 6, []), (1, 4, [21]), (0, 48, []), (1, 4, [23]), (0, 6, []), (1, 5, [25, 2, 2, 2, 0]), (1, 4, [26]), (0, 100, [])]
def WL35 : List Sh := [(1, 6, [4, 2, 2, 2, 2, 2, 0, 0]), (1, 5, [5, 7, 9, 11, 0]), (1, 4, [6]), (0, 100, []), (1, 4, [8]), (0, 6, []), (1, 4, [10]), (0, 48, []), (1, 4, [12]), (0, 6, []), (1, 1, [2, 0, 0]), (2, 4, [15, 2, 2, 2]), (1, 5, [16, 18, 20, 22, 0]), (1, 4, [17]), (0, 100, []), (1, 4, [19]), (0, 6, []), (1, 4, [21]), (0, 48, []), (1, 4, [23]), (0, 6, []), (1, 5, [25, 2, 2, 2, 0]), (1, 4, [26]), (0, 100, []), (1, 4, [2])]
def WL36 : List Sh := [(1, 6, [4, 2, 2, 2, 2, 2, 0, 0]), (1, 5, [5, 7, 9, 11, 0]), (1, 4, [6]), (0, 100, []), (1, 4, [8]), (0, 6, []), (1, 4, [10]), (0, 48, []), (1, 4, [12]), (0, 6, []), (1, 1, [2, 0, 0]), (2, 4, [15, 2, 2, 2]), (1, 5, [16, 18, 20, 22, 0]), (1, 4, [17]), (0, 100, []), (1, 4, [19]), (0, 6, []), (1, 4, [21]), (0, 48, []), (1, 4, [23]), (0, 6, []), (1, 5, [25, 2, 2, 2, 0]), (1, 4, [26]), (0, 100, []), (1, 4, [28]), (0, 6, [])]
def WL37 : List Sh := [(1, 6, [4, 2, 2, 2, 2, 2, 0, 0]), (1, 5, [5, 7, 9, 11, 0]), (1, 4, [6]), (0, 100, []), (1, 4, [8]), (0, 6, []), (1, 4, [10]), (0, 48, []), (1, 4, [12]), (0, 6, []), (1, 1, [2, 0, 0]), (2, 4, [15, 2, 2, 2]), (1, 5, [16, 18, 20, 22, 0]), (1, 4, [17]), (0, 100, []), (1, 4, [19]), (0, 6, []), (1, 4, [21]), (0, 48, []), (1, 4, [23]), (0, 6, []), (1, 5, [25, 27, 2, 2, 0]), (1, 4, [26]), (0, 100, []), (1, 4, [28]), (0, 6, [])]
def WL38 : List Sh := [(1, 6, [4, 2, 2, 2, 2, 2, 0, 0]), (1, 5, [5, 7, 9, 11, 0]), (1, 4, [6]), (0, 100, []), (1, 4, [8]), (0, 6, []), (1, 4, [10]), (0, 48, []), (1, 4, [12]), (0, 6, []), (1, 1, [2, 0, 0]), (2, 4, [15, 2, 2, 2]), (1, 5, [16, 18, 20, 22, 0]), (1, 4, [17]), (0, 100, []), (1, 4, [19]), (0, 6, []), (1, 4, [21]), (0, 48, []), (1, 4, [23]), (0, 6, []), (1, 5, [25, 27, 2, 2, 0]), (1, 4, [26]), (0, 100, []), (1, 4, [28]), (0, 6, []), (1, 4, [2])]
def WL39 : List Sh := [(1, 6, [4, 2, 2, 2, 2, 2, 0, 0]), (1, 5, [5, 7, 9, 11, 0]), (1, 4, [6]), (0, 100, []), (1, 4, [8]), (0, 6, []), (1, 4, [10]), (0, 48, []), (1, 4, [12]), (0, 6, []), (1, 1, [2, 0, 0]), (2, 4, [15, 2, 2, 2]), (1, 5, [16, 18, 20, 22, 0]), (1, 4, [17]), (0, 100, []), (1, 4, [19]), (0, 6, []), (1, 4, [21]), (0, 48, []), (1, 4, [23]), (0, 6, []), (1, 5, [25, 27, 2, 2, 0]), (1, 4, [26]), (0, 100, []), (1, 4, [28]), (0, 6, []), (1, 4, [30]), (0, 48, [])]
def WL40 : List Sh := [(1, 6, [4, 2, 2, 2, 2, 2, 0, 0]), (1, 5, [5, 7, 9, 11, 0]), (1, 4, [6]), (0, 100, []), (1, 4, [8]), (0, 6, []), (1, 4, [10]), (0, 48, []), (1, 4, [12]), (0, 6, []), (1, 1, [2, 0, 0]), (2, 4, [15, 2, 2, 2]), (1, 5, [16, 18, 20, 22, 0]), (1, 4, [17]), (0, 100, []), (1, 4, [19]), (0, 6, []), (1, 4, [21]), (0, 48, []), (1, 4, [23]), (0, 6, []), (1, 5, [25, 27, 29, 2, 0]), (1, 4, [26]), (0, 100, []), (1, 4, [28]), (0, 6, []), (1, 4, [30]), (0, 48, [])]
def WL41 : List Sh := [(1, 6, [4, 2, 2, 2, 2, 2, 0, 0]), (1, 5, [5, 7, 9, 11, 0]), (1, 4, [6]), (0, 100, []), (1, 4, [8]), (0, 6, []), (1, 4, [10]), (0, 48, []), (1, 4, [12]), (0, 6, []), (1, 1, [2, 0, 0]), (2, 4, [15, 2, 2, 2]), (1, 5, [16, 18, 20, 22, 0]), (1, 4, [17]), (0, 100, []), (1, 4, [19]), (0, 6, []), (1, 4, [21]), (0, 48, []), (1, 4, [23]), (0, 6, []), (1, 5, [25, 27, 29, 2, 0]), (1, 4, [26]), (0, 100, []), (1, 4, [28]), (0, 6, []), (1, 4, [30]), (0, 48, []), (1, 4, [2])]
def WL42 : List Sh := [(1, 6, [4, 2, 2, 2, 2, 2, 0, 0]), (1, 5, [5, 7, 9, 11, 0]), (1, 4, [6]), (0, 100, []), (1, 4, [8]), (0, 6, []), (1, 4, [10]), (0, 48, []), (1, 4, [12]), (0, 6, []), (1, 1, [2, 0, 0]), (2, 4, [15, 2, 2, 2]), (1, 5, [16, 18, 20, 22, 0]), (1, 4, [17]), (0, 100, []), (1, 4, [19]), (0, 6, []), (1, 4, [21]), (0, 48, []), (1, 4, [23]), (0, 6, []), (1, 5, [25, 27, 29, 2, 0]), (1, 4, [26]), (0, 100, []), (1, 4, [28]), (0, 6, []), (1, 4, [30]), (0, 48, []), (1, 4, [32]), (0, 6, [])]
def WL43 : List Sh := [(1, 6, [4, 2, 2, 2, 2, 2, 0, 0]), (1, 5, [5, 7, 9, 11, 0]), (1, 4, [6]), (0, 100, []), (1, 4, [8]), (0, 6, []), (1, 4, [10]), (0, 48, []), (1, 4, [12]), (0, 6, []), (1, 1, [2, 0, 0]), (2, 4, [15, 2, 2, 2]), (1, 5, [16, 18, 20, 22, 0]), (1, 4, [17]), (0, 100, []), (1, 4, [19]), (0, 6, []), (1, 4, [21]), (0, 48, []), (1, 4, [23]), (0, 6, []), (1, 5, [25, 27, 29, 31, 0]), (1, 4, [26]), (0, 100, []), (1, 4, [28]), (0, 6, []), (1, 4, [30]), (0, 48, []), (1, 4, [32]), (0, 6, [])]
def sg_State_21 (σ : St) : St := (eff_X4_fill 28 6 (-1) (up (ur (ur (ur (ur (ur (ur (ur (ur σ 22 (fun _ => 0)) 23 (fun _ => 0)) 24 (fun _ => 0)) 25 (fun _ => 0)) 26 (fun _ => 0)) 27 (fun _ => 0)) 28 (fun _ => 0)) 29 (fun _ => 0)) 21 4 0))
abbrev rc_State_21 : Room := ({ frames := 2, cells := 8, slots := 164, locals := 33 } : Room)
set_option maxHeartbeats 4000000 in
set_option maxRecDepth 100000 in
theorem cc_State_21 (l : Launch) (w : GW) (g0 : Nat → Nat) (σ : St) (sz : Nat) (x21 : Nat) (a21 : g0 21 = x21) : Met l yX5_init (Cond.code yX5_init cX5_init 1 none :: wsL_law) rc_State_21 (gPcC (gw w g0) WL31 σ sz [.ref x21]) (gQc w g0 WL31.length sz WL43 (sg_State_21 σ)) 8 164 (gA (gw w g0) WL31.length sz) := by
  refine g_metC (by decide) [.ref x21] (Nat.le_of_ble_eq_true rfl) ?_
  intro p e s m below meth c ls hz C0 hin hao hl G
  obtain ⟨hx, hb, hr, hml, hown, hts, hlk, hNw, hA⟩ := id C0
  have hown : s.vm.findClass RX5 = some m.cls := hown
  have hl : lv_has ls 1 [(0, .ref x21)] := hl
  have E : ∀ k, k < 22 → g0 k = g0 k := fun _ _ => rfl
  refine lv_aload_n hx hb dX5_init_0 rfl (lv_at hl 0 rfl) ?_
  refine g_objI hx hb hml hts hown wm_38 wm_10 wm_11 hl.1 (Nat.le_of_ble_eq_true rfl) (Nat.le_of_ble_eq_true rfl) dX5_init_1 ?_
  refine lv_aload_n hx hb dX5_init_4 rfl (lv_at hl 0 rfl) ?_
  refine g_newO (n := 22) (ci := 4) (C := RX4) (T := TX4) (N := 1) hx hb hts hown [2] inlX4 tyX4 tyX4_ok G hA rfl (by decide +kernel) rfl (fun j hj => by rcases (show j = 0 by omega) with rfl <;> rfl) (by decide) wm_39 wm_21 wm_22 (Nat.le_of_ble_eq_true rfl) (Nat.le_of_ble_eq_true rfl) dX5_init_5 (show _ = WL32 from rfl) (fun g x22 H a22 hg G => ?_)
  have a21 := (hg 21 (Nat.le_of_ble_eq_true rfl)).trans a21
  have E : ∀ k, k < 22 → g k = g0 k := fun k hk => (hg k (Nat.lt_of_lt_of_le hk (Nat.le_of_ble_eq_true rfl))).trans (E k hk)
  refine W.widen (k := 1) (n := 1) (Nat.le_of_ble_eq_true rfl) (Nat.le_of_ble_eq_true rfl) ?_
  refine lv_dup hx hb dX5_init_8 rfl ?_
  refine lv_bipush (v := iz 100) hx hb dX5_init_9 (by decide +kernel) ?_
  refine g_callC (n := 1) (rest := [.ref x22, .ref x21]) (n0 := 23) hx hb hml hts hown hNw hao hA G [.int (iz 100)] (c4_init l w _ _ _ 22 100 23 x22 a22 rfl (by decide +kernel) rfl (by decide) (i := 100) rfl (show _ = WL33 from rfl)) rfl wm_45 wm_46 wm_22 wm_47 rfl ⟨by decide +kernel, by decide +kernel, by decide +kernel⟩ ⟨rfl, rfl, (Nat.le_of_ble_eq_true rfl), (Nat.le_of_ble_eq_true rfl)⟩ rfl hl.1 (Nat.le_of_ble_eq_true rfl) rfl dX5_init_11 ⟨(Nat.le_of_ble_eq_true rfl), (Nat.le_of_ble_eq_true rfl)⟩ (fun g H locs hg G => ?_)
  have a21 := (hg 21 (Nat.le_of_ble_eq_true rfl)).trans a21
  have a22 := (hg 22 (Nat.le_of_ble_eq_true rfl)).trans a22
  have E : ∀ k, k < 22 → g k = g0 k := fun k hk => (hg k (Nat.lt_of_lt_of_le hk (Nat.le_of_ble_eq_true rfl))).trans (E k hk)
  refine W.widen (k := 2) (n := 101) (Nat.le_of_ble_eq_true rfl) (Nat.le_of_ble_eq_true rfl) ?_
  refine g_putF (k := 21) (ci := 5) (cs := [2, 2, 2, 2, 0]) hx hb hts hown 0 22 inlX5 tyX5 tyX5_ok nmX5 G rfl rfl (by decide) (by decide) wm_40 rfl hin rfl rfl rfl dX5_init_14 a21 a22 (show _ = WL34 from rfl) (fun H locs G => ?_)
  refine lv_aload_n hx hb dX5_init_17 rfl (lv_at hl 0 rfl) ?_
  refine g_newO (n := 24) (ci := 4) (C := RX4) (T := TX4) (N := 1) hx hb hts hown [2] inlX4 tyX4 tyX4_ok G hA rfl (by decide +kernel) rfl (fun j hj => by rcases (show j = 0 by omega) with rfl <;> rfl) (by decide) wm_39 wm_21 wm_22 (Nat.le_of_ble_eq_true rfl) (Nat.le_of_ble_eq_true rfl) dX5_init_18 (show _ = WL35 from rfl) (fun g x24 H a24 hg G => ?_)
  have a21 := (hg 21 (Nat.le_of_ble_eq_true rfl)).trans a21
  have a22 := (hg 22 (Nat.le_of_ble_eq_true rfl)).trans a22
  have E : ∀ k, k < 22 → g k = g0 k := fun k hk => (hg k (Nat.lt_of_lt_of_le hk (Nat.le_of_ble_eq_true rfl))).trans (E k hk)
  refine W.widen (k := 3) (n := 102) (Nat.le_of_ble_eq_true rfl) (Nat.le_of_ble_eq_true rfl) ?_
  refine lv_dup hx hb dX5_init_21 rfl ?_
  refine lv_bipush (v := iz 6) hx hb dX5_init_22 (by decide +kernel) ?_
  refine g_callC (n := 1) (rest := [.ref x24, .ref x21]) (n0 := 25) hx hb hml hts hown hNw hao hA G [.int (iz 6)] (c4_init l w _ _ _ 24 6 25 x24 a24 rfl (by decide +kernel) rfl (by decide) (i := 6) rfl (show _ = WL36 from rfl)) rfl wm_45 wm_46 wm_22 wm_47 rfl ⟨by decide +kernel, by decide +kernel, by decide +kernel⟩ ⟨rfl, rfl, (Nat.le_of_ble_eq_true rfl), (Nat.le_of_ble_eq_true rfl)⟩ rfl hl.1 (Nat.le_of_ble_eq_true rfl) rfl dX5_init_24 ⟨(Nat.le_of_ble_eq_true rfl), (Nat.le_of_ble_eq_true rfl)⟩ (fun g H locs hg G => ?_)
  have a21 := (hg 21 (Nat.le_of_ble_eq_true rfl)).trans a21
  have a22 := (hg 22 (Nat.le_of_ble_eq_true rfl)).trans a22
  have a24 := (hg 24 (Nat.le_of_ble_eq_true rfl)).trans a24
  have E : ∀ k, k < 22 → g k = g0 k := fun k hk => (hg k (Nat.lt_of_lt_of_le hk (Nat.le_of_ble_eq_true rfl))).trans (E k hk)
  refine W.widen (k := 4) (n := 108) (Nat.le_of_ble_eq_true rfl) (Nat.le_of_ble_eq_true rfl) ?_
  refine g_putF (k := 21) (ci := 5) (cs := [25, 2, 2, 2, 0]) hx hb hts hown 1 24 inlX5 tyX5 tyX5_ok nmX5 G rfl rfl (by decide) (by decide) wm_41 rfl hin rfl rfl rfl dX5_init_27 a21 a24 (show _ = WL37 from rfl) (fun H locs G => ?_)
  refine lv_aload_n hx hb dX5_init_30 rfl (lv_at hl 0 rfl) ?_
  refine g_newO (n := 26) (ci := 4) (C := RX4) (T := TX4) (N := 1) hx hb hts hown [2] inlX4 tyX4 tyX4_ok G hA rfl (by decide +kernel) rfl (fun j hj => by rcases (show j = 0 by omega) with rfl <;> rfl) (by decide) wm_39 wm_21 wm_22 (Nat.le_of_ble_eq_true rfl) (Nat.le_of_ble_eq_true rfl) dX5_init_31 (show _ = WL38 from rfl) (fun g x26 H a26 hg G => ?_)
  have a21 := (hg 21 (Nat.le_of_ble_eq_true rfl)).trans a21
  have a22 := (hg 22 (Nat.le_of_ble_eq_true rfl)).trans a22
  have a24 := (hg 24 (Nat.le_of_ble_eq_true rfl)).trans a24
  have E : ∀ k, k < 22 → g k = g0 k := fun k hk => (hg k (Nat.lt_of_lt_of_le hk (Nat.le_of_ble_eq_true rfl))).trans (E k hk)
  refine W.widen (k := 5) (n := 109) (Nat.le_of_ble_eq_true rfl) (Nat.le_of_ble_eq_true rfl) ?_
  refine lv_dup hx hb dX5_init_34 rfl ?_
  refine lv_bipush (v := iz 48) hx hb dX5_init_35 (by decide +kernel) ?_
  refine g_callC (n := 1) (rest := [.ref x26, .ref x21]) (n0 := 27) hx hb hml hts hown hNw hao hA G [.int (iz 48)] (c4_init l w _ _ _ 26 48 27 x26 a26 rfl (by decide +kernel) rfl (by decide) (i := 48) rfl (show _ = WL39 from rfl)) rfl wm_45 wm_46 wm_22 wm_47 rfl ⟨by decide +kernel, by decide +kernel, by decide +kernel⟩ ⟨rfl, rfl, (Nat.le_of_ble_eq_true rfl), (Nat.le_of_ble_eq_true rfl)⟩ rfl hl.1 (Nat.le_of_ble_eq_true rfl) rfl dX5_init_37 ⟨(Nat.le_of_ble_eq_true rfl), (Nat.le_of_ble_eq_true rfl)⟩ (fun g H locs hg G => ?_)
  have a21 := (hg 21 (Nat.le_of_ble_eq_true rfl)).trans a21
  have a22 := (hg 22 (Nat.le_of_ble_eq_true rfl)).trans a22
  have a24 := (hg 24 (Nat.le_of_ble_eq_true rfl)).trans a24
  have a26 := (hg 26 (Nat.le_of_ble_eq_true rfl)).trans a26
  have E : ∀ k, k < 22 → g k = g0 k := fun k hk => (hg k (Nat.lt_of_lt_of_le hk (Nat.le_of_ble_eq_true rfl))).trans (E k hk)
  refine W.widen (k := 6) (n := 157) (Nat.le_of_ble_eq_true rfl) (Nat.le_of_ble_eq_true rfl) ?_
  refine g_putF (k := 21) (ci := 5) (cs := [25, 27, 2, 2, 0]) hx hb hts hown 2 26 inlX5 tyX5 tyX5_ok nmX5 G rfl rfl (by decide) (by decide) wm_42 rfl hin rfl rfl rfl dX5_init_40 a21 a26 (show _ = WL40 from rfl) (fun H locs G => ?_)
  refine lv_aload_n hx hb dX5_init_43 rfl (lv_at hl 0 rfl) ?_
  refine g_newO (n := 28) (ci := 4) (C := RX4) (T := TX4) (N := 1) hx hb hts hown [2] inlX4 tyX4 tyX4_ok G hA rfl (by decide +kernel) rfl (fun j hj => by rcases (show j = 0 by omega) with rfl <;> rfl) (by decide) wm_39 wm_21 wm_22 (Nat.le_of_ble_eq_true rfl) (Nat.le_of_ble_eq_true rfl) dX5_init_44 (show _ = WL41 from rfl) (fun g x28 H a28 hg G => ?_)
  have a21 := (hg 21 (Nat.le_of_ble_eq_true rfl)).trans a21
  have a22 := (hg 22 (Nat.le_of_ble_eq_true rfl)).trans a22
  have a24 := (hg 24 (Nat.le_of_ble_eq_true rfl)).trans a24
  have a26 := (hg 26 (Nat.le_of_ble_eq_true rfl)).trans a26
  have E : ∀ k, k < 22 → g k = g0 k := fun k hk => (hg k (Nat.lt_of_lt_of_le hk (Nat.le_of_ble_eq_true rfl))).trans (E k hk)
  refine W.widen (k := 7) (n := 158) (Nat.le_of_ble_eq_true rfl) (Nat.le_of_ble_eq_true rfl) ?_
  refine lv_dup hx hb dX5_init_47 rfl ?_
  refine lv_bipush (v := iz 6) hx hb dX5_init_48 (by decide +kernel) ?_
  refine g_callC (n := 1) (rest := [.ref x28, .ref x21]) (n0 := 29) hx hb hml hts hown hNw hao hA G [.int (iz 6)] (c4_init l w _ _ _ 28 6 29 x28 a28 rfl (by decide +kernel) rfl (by decide) (i := 6) rfl (show _ = WL42 from rfl)) rfl wm_45 wm_46 wm_22 wm_47 rfl ⟨by decide +kernel, by decide +kernel, by decide +kernel⟩ ⟨rfl, rfl, (Nat.le_of_ble_eq_true rfl), (Nat.le_of_ble_eq_true rfl)⟩ rfl hl.1 (Nat.le_of_ble_eq_true rfl) rfl dX5_init_50 ⟨(Nat.le_of_ble_eq_true rfl), (Nat.le_of_ble_eq_true rfl)⟩ (fun g H locs hg G => ?_)
  have a21 := (hg 21 (Nat.le_of_ble_eq_true rfl)).trans a21
  have a22 := (hg 22 (Nat.le_of_ble_eq_true rfl)).trans a22
  have a24 := (hg 24 (Nat.le_of_ble_eq_true rfl)).trans a24
  have a26 := (hg 26 (Nat.le_of_ble_eq_true rfl)).trans a26
  have a28 := (hg 28 (Nat.le_of_ble_eq_true rfl)).trans a28
  have E : ∀ k, k < 22 → g k = g0 k := fun k hk => (hg k (Nat.lt_of_lt_of_le hk (Nat.le_of_ble_eq_true rfl))).trans (E k hk)
  refine W.widen (k := 8) (n := 164) (Nat.le_of_ble_eq_true rfl) (Nat.le_of_ble_eq_true rfl) ?_
  refine g_putF (k := 21) (ci := 5) (cs := [25, 27, 29, 2, 0]) hx hb hts hown 3 28 inlX5 tyX5 tyX5_ok nmX5 G rfl rfl (by decide) (by decide) wm_43 rfl hin rfl rfl rfl dX5_init_53 a21 a28 (show _ = WL43 from rfl) (fun H locs G => ?_)
  refine lv_aload_n hx hb dX5_init_56 rfl (lv_at hl 0 rfl) ?_
  refine lv_iconst (v := iz 0) hx hb dX5_init_57 rfl ?_
  refine g_putA (k := 21) (ci := 5) (cs := [25, 27, 29, 31, 0]) hx hb hts hown 4 inlX5 tyX5 tyX5_ok nmX5 G rfl rfl (by decide) rfl wm_44 rfl rfl rfl dX5_init_58 a21 (fun H locs G => ?_)
  refine lv_aload_n hx hb dX5_init_61 rfl (lv_at hl 0 rfl) ?_
  refine g_getA (k := 21) (ci := 5) (cs := [25, 27, 29, 31, 0]) hx hb hts hown 3 28 inlX5 G rfl rfl (by decide) rfl wm_43 dX5_init_62 a21 a28 ?_
  refine lv_iconst (v := iz (-1)) hx hb dX5_init_65 rfl ?_
  refine g_callVv (w := gw w g) (rest := []) hx hb hml hts hown hNw hA G [.int (iz (-1))] (cS_X4_fill WL43 l (gw w g) _ _ 28 6 ⟨rfl, rfl⟩ (by decide) (-1) trivial) (show WL43[28]? = some (1, 4, [32]) from rfl) rfl wm_51 wm_52 wm_53 wm_22 wm_54 hd_X4_fill ⟨rfl, rfl, (Nat.le_of_ble_eq_true rfl), (Nat.le_of_ble_eq_true rfl)⟩ rfl hl.1 (Nat.le_of_ble_eq_true rfl) (by show _ = [Value.int (iz (-1)), Value.ref (g 28)]; rw [a28]) dX5_init_66 ⟨(Nat.le_of_ble_eq_true rfl), (Nat.le_of_ble_eq_true rfl)⟩ (fun s1 H locs h G => ?_)
  rw [h] at G
  exact g_cret (n0 := 22) hx hb hr hlk rfl hz E G (Nat.le_of_ble_eq_true rfl) (Nat.le_of_ble_eq_true rfl) dX5_init_69
def WL44 : List Sh := [(1, 6, [4, 2, 2, 2, 2, 2, 0, 0]), (1, 5, [5, 7, 9, 11, 0]), (1, 4, [6]), (0, 100, []), (1, 4, [8]), (0, 6, []), (1, 4, [10]), (0, 48, []), (1, 4, [12]), (0, 6, []), (1, 1, [2, 0, 0]), (2, 4, [15, 24, 2, 2]), (1, 5, [16, 18, 20, 22, 0]), (1, 4, [17]), (0, 100, []), (1, 4, [19]), (0, 6, []), (1, 4, [21]), (0, 48, []), (1, 4, [23]), (0, 6, []), (1, 5, [25, 27, 29, 31, 0]), (1, 4, [26]), (0, 100, []), (1, 4, [28]), (0, 6, []), (1, 4, [30]), (0, 48, []), (1, 4, [32]), (0, 6, [])]
def WL45 : List Sh := [(1, 6, [4, 2, 2, 2, 2, 2, 0, 0]), (1, 5, [5, 7, 9, 11, 0]), (1, 4, [6]), (0, 100, []), (1, 4, [8]), (0, 6, []), (1, 4, [10]), (0, 48, []), (1, 4, [12]), (0, 6, []), (1, 1, [2, 0, 0]), (2, 4, [15, 24, 2, 2]), (1, 5, [16, 18, 20, 22, 0]), (1, 4, [17]), (0, 100, []), (1, 4, [19]), (0, 6, []), (1, 4, [21]), (0, 48, []), (1, 4, [23]), (0, 6, []), (1, 5, [25, 27, 29, 31, 0]), (1, 4, [26]), (0, 100, []), (1, 4, [28]), (0, 6, []), (1, 4, [30]), (0, 48, []), (1, 4, [32]), (0, 6, []), (1, 5, [2, 2, 2, 2, 0])]
def WL46 : List Sh := [(1, 6, [4, 2, 2, 2, 2, 2, 0, 0]), (1, 5, [5, 7, 9, 11, 0]), (1, 4, [6]), (0, 100, []), (1, 4, [8]), (0, 6, []), (1, 4, [10]), (0, 48, []), (1, 4, [12]), (0, 6, []), (1, 1, [2, 0, 0]), (2, 4, [15, 24, 2, 2]), (1, 5, [16, 18, 20, 22, 0]), (1, 4, [17]), (0, 100, []), (1, 4, [19]), (0, 6, []), (1, 4, [21]), (0, 48, []), (1, 4, [23]), (0, 6, []), (1, 5, [25, 27, 29, 31, 0]), (1, 4, [26]), (0, 100, []), (1, 4, [28]), (0, 6, []), (1, 4, [30]), (0, 48, []), (1, 4, [32]), (0, 6, []), (1, 5, [2, 2, 2, 2, 0]), (1, 4, [2])]
def WL47 : List Sh := [(1, 6, [4, 2, 2, 2, 2, 2, 0, 0]), (1, 5, [5, 7, 9, 11, 0]), (1, 4, [6]), (0, 100, []), (1, 4, [8]), (0, 6, []), (1, 4, [10]), (0, 48, []), (1, 4, [12]), (0, 6, []), (1, 1, [2, 0, 0]), (2, 4, [15, 24, 2, 2]), (1, 5, [16, 18, 20, 22, 0]), (1, 4, [17]), (0, 100, []), (1, 4, [19]), (0, 6, []), (1, 4, [21]), (0, 48, []), (1, 4, [23]), (0, 6, []), (1, 5, [25, 27, 29, 31, 0]), (1, 4, [26]), (0, 100, []), (1, 4, [28]), (0, 6, []), (1, 4, [30]), (0, 48, []), (1, 4, [32]), (0, 6, []), (1, 5, [2, 2, 2, 2, 0]), (1, 4, [35]), (0, 100, [])]
def WL48 : List Sh := [(1, 6, [4, 2, 2, 2, 2, 2, 0, 0]), (1, 5, [5, 7, 9, 11, 0]), (1, 4, [6]), (0, 100, []), (1, 4, [8]), (0, 6, []), (1, 4, [10]), (0, 48, []), (1, 4, [12]), (0, 6, []), (1, 1, [2, 0, 0]), (2, 4, [15, 24, 2, 2]), (1, 5, [16, 18, 20, 22, 0]), (1, 4, [17]), (0, 100, []), (1, 4, [19]), (0, 6, []), (1, 4, [21]), (0, 48, []), (1, 4, [23]), (0, 6, []), (1, 5, [25, 27, 29, 31, 0]), (1, 4, [26]), (0, 100, []), (1, 4, [28]), (0, 6, []), (1, 4, [30]), (0, 48, []), (1, 4, [32]), (0, 6, []), (1, 5, [34, 2, 2, 2, 0]), (1, 4, [35]), (0, 100, [])]
def WL49 : List Sh := [(1, 6, [4, 2, 2, 2, 2, 2, 0, 0]), (1, 5, [5, 7, 9, 11, 0]), (1, 4, [6]), (0, 100, []), (1, 4, [8]), (0, 6, []), (1, 4, [10]), (0, 48, []), (1, 4, [12]), (0, 6, []), (1, 1, [2, 0, 0]), (2, 4, [15, 24, 2, 2]), (1, 5, [16, 18, 20, 22, 0]), (1, 4, [17]), (0, 100, []), (1, 4, [19]), (0, 6, []), (1, 4, [21]), (0, 48, []), (1, 4, [23]), (0, 6, []), (1, 5, [25, 27, 29, 31, 0]), (1, 4, [26]), (0, 100, []), (1, 4, [28]), (0, 6, []), (1, 4, [30]), (0, 48, []), (1, 4, [32]), (0, 6, []), (1, 5, [34, 2, 2, 2, 0]), (1, 4, [35]), (0, 100, []), (1, 4, [2])]
def WL50 : List Sh := [(1, 6, [4, 2, 2, 2, 2, 2, 0, 0]), (1, 5, [5, 7, 9, 11, 0]), (1, 4, [6]), (0, 100, []), (1, 4, [8]), (0, 6, []), (1, 4, [10]), (0, 48, []), (1, 4, [12]), (0, 6, []), (1, 1, [2, 0, 0]), (2, 4, [15, 24, 2, 2]), (1, 5, [16, 18, 20, 22, 0]), (1, 4, [17]), (0, 100, []), (1, 4, [19]), (0, 6, []), (1, 4, [21]), (0, 48, []), (1, 4, [23]), (0, 6, []), (1, 5, [25, 27, 29, 31, 0]), (1, 4, [26]), (0, 100, []), (1, 4, [28]), (0, 6, []), (1, 4, [30]), (0, 48, []), (1, 4, [32]), (0, 6, []), (1, 5, [34, 2, 2, 2, 0]), (1, 4, [35]), (0, 100, []), (1, 4, [37]), (0, 6, [])]
def WL51 : List Sh := [(1, 6, [4, 2, 2, 2, 2, 2, 0, 0]), (1, 5, [5, 7, 9, 11, 0]), (1, 4, [6]), (0, 100, []), (1, 4, [8]), (0, 6, []), (1, 4, [10]), (0, 48, []), (1, 4, [12]), (0, 6, []), (1, 1, [2, 0, 0]), (2, 4, [15, 24, 2, 2]), (1, 5, [16, 18, 20, 22, 0]), (1, 4, [17]), (0, 100, []), (1, 4, [19]), (0, 6, []), (1, 4, [21]), (0, 48, []), (1, 4, [23]), (0, 6, []), (1, 5, [25, 27, 29, 31, 0]), (1, 4, [26]), (0, 100, []), (1, 4, [28]), (0, 6, []), (1, 4, [30]), (0, 48, []), (1, 4, [32]), (0, 6, []), (1, 5, [34, 36, 2, 2, 0]), (1, 4, [35]), (0, 100, []), (1, 4, [37]), (0, 6, [])]
def WL52 : List Sh := [(1, 6, [4, 2, 2, 2, 2, 2, 0, 0]), (1, 5, [5, 7, 9, 11, 0]), (1, 4, [6]), (0, 100, []), (1, 4, [8]), (0, 6, []), (1, 4, [10]), (0, 48, []), (1, 4, [12]), (0, 6, []), (1, 1, [2, 0, 0]), (2, 4, [15, 24, 2, 2]), (1, 5, [16, 18, 20, 22, 0]), (1, 4, [17]), (0, 100, []), (1, 4, [19]), (0, 6, []), (1, 4, [21]), (0, 48, []), (1, 4, [23]), (0, 6, []), (1, 5, [25, 27, 29, 31, 0]), (1, 4, [26]), (0, 100, []), (1, 4, [28]), (0, 6, []), (1, 4, [30]), (0, 48, []), (1, 4, [32]), (0, 6, []), (1, 5, [34, 36, 2, 2, 0]), (1, 4, [35]), (0, 100, []), (1, 4, [37]), (0, 6, []), (1, 4, [2])]
def WL53 : List Sh := [(1, 6, [4, 2, 2, 2, 2, 2, 0, 0]), (1, 5, [5, 7, 9, 11, 0]), (1, 4, [6]), (0, 100, []), (1, 4, [8]), (0, 6, []), (1, 4, [10]), (0, 48, []), (1, 4, [12]), (0, 6, []), (1, 1, [2, 0, 0]), (2, 4, [15, 24, 2, 2]), (1, 5, [16, 18, 20, 22, 0]), (1, 4, [17]), (0, 100, []), (1, 4, [19]), (0, 6, []), (1, 4, [21]), (0, 48, []), (1, 4, [23]), (0, 6, []), (1, 5, [25, 27, 29, 31, 0]), (1, 4, [26]), (0, 100, []), (1, 4, [28]), (0, 6, []), (1, 4, [30]), (0, 48, []), (1, 4, [32]), (0, 6, []), (1, 5, [34, 36, 2, 2, 0]), (1, 4, [35]), (0, 100, []), (1, 4, [37]), (0, 6, []), (1, 4, [39]), (0, 48, [])]
def WL54 : List Sh := [(1, 6, [4, 2, 2, 2, 2, 2, 0, 0]), (1, 5, [5, 7, 9, 11, 0]), (1, 4, [6]), (0, 100, []), (1, 4, [8]), (0, 6, []), (1, 4, [10]), (0, 48, []), (1, 4, [12]), (0, 6, []), (1, 1, [2, 0, 0]), (2, 4, [15, 24, 2, 2]), (1, 5, [16, 18, 20, 22, 0]), (1, 4, [17]), (0, 100, []), (1, 4, [19]), (0, 6, []), (1, 4, [21]), (0, 48, []), (1, 4, [23]), (0, 6, []), (1, 5, [25, 27, 29, 31, 0]), (1, 4, [26]), (0, 100, []), (1, 4, [28]), (0, 6, []), (1, 4, [30]), (0, 48, []), (1, 4, [32]), (0, 6, []), (1, 5, [34, 36, 38, 2, 0]), (1, 4, [35]), (0, 100, []), (1, 4, [37]), (0, 6, []), (1, 4, [39]), (0, 48, [])]
def WL55 : List Sh := [(1, 6, [4, 2, 2, 2, 2, 2, 0, 0]), (1, 5, [5, 7, 9, 11, 0]), (1, 4, [6]), (0, 100, []), (1, 4, [8]), (0, 6, []), (1, 4, [10]), (0, 48, []), (1, 4, [12]), (0, 6, []), (1, 1, [2, 0, 0]), (2, 4, [15, 24, 2, 2]), (1, 5, [16, 18, 20, 22, 0]), (1, 4, [17]), (0, 100, []), (1, 4, [19]), (0, 6, []), (1, 4, [21]), (0, 48, []), (1, 4, [23]), (0, 6, []), (1, 5, [25, 27, 29, 31, 0]), (1, 4, [26]), (0, 100, []), (1, 4, [28]), (0, 6, []), (1, 4, [30]), (0, 48, []), (1, 4, [32]), (0, 6, []), (1, 5, [34, 36, 38, 2, 0]), (1, 4, [35]), (0, 100, []), (1, 4, [37]), (0, 6, []), (1, 4, [39]), (0, 48, []), (1, 4, [2])]
def WL56 : List Sh := [(1, 6, [4, 2, 2, 2, 2, 2, 0, 0]), (1, 5, [5, 7, 9, 11, 0]), (1, 4, [6]), (0, 100, []), (1, 4, [8]), (0, 6, []), (1, 4, [10]), (0, 48, []), (1, 4, [12]), (0, 6, []), (1, 1, [2, 0, 0]), (2, 4, [15, 24, 2, 2]), (1, 5, [16, 18, 20, 22, 0]), (1, 4, [17]), (0, 100, []), (1, 4, [19]), (0, 6, []), (1, 4, [21]), (0, 48, []), (1, 4, [23]), (0, 6, []), (1, 5, [25, 27, 29, 31, 0]), (1, 4, [26]), (0, 100, []), (1, 4, [28]), (0, 6, []), (1, 4, [30]), (0, 48, []), (1, 4, [32]), (0, 6, []), (1, 5, [34, 36, 38, 2, 0]), (1, 4, [35]), (0, 100, []), (1, 4, [37]), (0, 6, []), (1, 4, [39]), (0, 48, []), (1, 4, [41]), (0, 6, [])]
def WL57 : List Sh := [(1, 6, [4, 2, 2, 2, 2, 2, 0, 0]), (1, 5, [5, 7, 9, 11, 0]), (1, 4, [6]), (0, 100, []), (1, 4, [8]), (0, 6, []), (1, 4, [10]), (0, 48, []), (1, 4, [12]), (0, 6, []), (1, 1, [2, 0, 0]), (2, 4, [15, 24, 2, 2]), (1, 5, [16, 18, 20, 22, 0]), (1, 4, [17]), (0, 100, []), (1, 4, [19]), (0, 6, []), (1, 4, [21]), (0, 48, []), (1, 4, [23]), (0, 6, []), (1, 5, [25, 27, 29, 31, 0]), (1, 4, [26]), (0, 100, []), (1, 4, [28]), (0, 6, []), (1, 4, [30]), (0, 48, []), (1, 4, [32]), (0, 6, []), (1, 5, [34, 36, 38, 40, 0]), (1, 4, [35]), (0, 100, []), (1, 4, [37]), (0, 6, []), (1, 4, [39]), (0, 48, []), (1, 4, [41]), (0, 6, [])]
def sg_State_30 (σ : St) : St := (eff_X4_fill 37 6 (-1) (up (ur (ur (ur (ur (ur (ur (ur (ur σ 31 (fun _ => 0)) 32 (fun _ => 0)) 33 (fun _ => 0)) 34 (fun _ => 0)) 35 (fun _ => 0)) 36 (fun _ => 0)) 37 (fun _ => 0)) 38 (fun _ => 0)) 30 4 0))
abbrev rc_State_30 : Room := ({ frames := 2, cells := 8, slots := 164, locals := 33 } : Room)
set_option maxHeartbeats 4000000 in
set_option maxRecDepth 100000 in
theorem cc_State_30 (l : Launch) (w : GW) (g0 : Nat → Nat) (σ : St) (sz : Nat) (x30 : Nat) (a30 : g0 30 = x30) : Met l yX5_init (Cond.code yX5_init cX5_init 1 none :: wsL_law) rc_State_30 (gPcC (gw w g0) WL45 σ sz [.ref x30]) (gQc w g0 WL45.length sz WL57 (sg_State_30 σ)) 8 164 (gA (gw w g0) WL45.length sz) := by
  refine g_metC (by decide) [.ref x30] (Nat.le_of_ble_eq_true rfl) ?_
  intro p e s m below meth c ls hz C0 hin hao hl G
  obtain ⟨hx, hb, hr, hml, hown, hts, hlk, hNw, hA⟩ := id C0
  have hown : s.vm.findClass RX5 = some m.cls := hown
  have hl : lv_has ls 1 [(0, .ref x30)] := hl
  have E : ∀ k, k < 31 → g0 k = g0 k := fun _ _ => rfl
  refine lv_aload_n hx hb dX5_init_0 rfl (lv_at hl 0 rfl) ?_
  refine g_objI hx hb hml hts hown wm_38 wm_10 wm_11 hl.1 (Nat.le_of_ble_eq_true rfl) (Nat.le_of_ble_eq_true rfl) dX5_init_1 ?_
  refine lv_aload_n hx hb dX5_init_4 rfl (lv_at hl 0 rfl) ?_
  refine g_newO (n := 31) (ci := 4) (C := RX4) (T := TX4) (N := 1) hx hb hts hown [2] inlX4 tyX4 tyX4_ok G hA rfl (by decide +kernel) rfl (fun j hj => by rcases (show j = 0 by omega) with rfl <;> rfl) (by decide) wm_39 wm_21 wm_22 (Nat.le_of_ble_eq_true rfl) (Nat.le_of_ble_eq_true rfl) dX5_init_5 (show _ = WL46 from rfl) (fun g x31 H a31 hg G => ?_)
  have a30 := (hg 30 (Nat.le_of_ble_eq_true rfl)).trans a30
  have E : ∀ k, k < 31 → g k = g0 k := fun k hk => (hg k (Nat.lt_of_lt_of_le hk (Nat.le_of_ble_eq_true rfl))).trans (E k hk)
  refine W.widen (k := 1) (n := 1) (Nat.le_of_ble_eq_true rfl) (Nat.le_of_ble_eq_true rfl) ?_
  refine lv_dup hx hb dX5_init_8 rfl ?_
  refine lv_bipush (v := iz 100) hx hb dX5_init_9 (by decide +kernel) ?_
  refine g_callC (n := 1) (rest := [.ref x31, .ref x30]) (n0 := 32) hx hb hml hts hown hNw hao hA G [.int (iz 100)] (c4_init l w _ _ _ 31 100 32 x31 a31 rfl (by decide +kernel) rfl (by decide) (i := 100) rfl (show _ = WL47 from rfl)) rfl wm_45 wm_46 wm_22 wm_47 rfl ⟨by decide +kernel, by decide +kernel, by decide +kernel⟩ ⟨rfl, rfl, (Nat.le_of_ble_eq_true rfl), (Nat.le_of_ble_eq_true rfl)⟩ rfl hl.1 (Nat.le_of_ble_eq_true rfl) rfl dX5_init_11 ⟨(Nat.le_of_ble_eq_true rfl), (Nat.le_of_ble_eq_true rfl)⟩ (fun g H locs hg G => ?_)
  have a30 := (hg 30 (Nat.le_of_ble_eq_true rfl)).trans a30
  have a31 := (hg 31 (Nat.le_of_ble_eq_true rfl)).trans a31
  have E : ∀ k, k < 31 → g k = g0 k := fun k hk => (hg k (Nat.lt_of_lt_of_le hk (Nat.le_of_ble_eq_true rfl))).trans (E k hk)
  refine W.widen (k := 2) (n := 101) (Nat.le_of_ble_eq_true rfl) (Nat.le_of_ble_eq_true rfl) ?_
  refine g_putF (k := 30) (ci := 5) (cs := [2, 2, 2, 2, 0]) hx hb hts hown 0 31 inlX5 tyX5 tyX5_ok nmX5 G rfl rfl (by decide) (by decide) wm_40 rfl hin rfl rfl rfl dX5_init_14 a30 a31 (show _ = WL48 from rfl) (fun H locs G => ?_)
  refine lv_aload_n hx hb dX5_init_17 rfl (lv_at hl 0 rfl) ?_
  refine g_newO (n := 33) (ci := 4) (C := RX4) (T := TX4) (N := 1) hx hb hts hown [2] inlX4 tyX4 tyX4_ok G hA rfl (by decide +kernel) rfl (fun j hj => by rcases (show j = 0 by omega) with rfl <;> rfl) (by decide) wm_39 wm_21 wm_22 (Nat.le_of_ble_eq_true rfl) (Nat.le_of_ble_eq_true rfl) dX5_init_18 (show _ = WL49 from rfl) (fun g x33 H a33 hg G => ?_)
  have a30 := (hg 30 (Nat.le_of_ble_eq_true rfl)).trans a30
  have a31 := (hg 31 (Nat.le_of_ble_eq_true rfl)).trans a31
  have E : ∀ k, k < 31 → g k = g0 k := fun k hk => (hg k (Nat.lt_of_lt_of_le hk (Nat.le_of_ble_eq_true rfl))).trans (E k hk)
  refine W.widen (k := 3) (n := 102) (Nat.le_of_ble_eq_true rfl) (Nat.le_of_ble_eq_true rfl) ?_
  refine lv_dup hx hb dX5_init_21 rfl ?_
  refine lv_bipush (v := iz 6) hx hb dX5_init_22 (by decide +kernel) ?_
  refine g_callC (n := 1) (rest := [.ref x33, .ref x30]) (n0 := 34) hx hb hml hts hown hNw hao hA G [.int (iz 6)] (c4_init l w _ _ _ 33 6 34 x33 a33 rfl (by decide +kernel) rfl (by decide) (i := 6) rfl (show _ = WL50 from rfl)) rfl wm_45 wm_46 wm_22 wm_47 rfl ⟨by decide +kernel, by decide +kernel, by decide +kernel⟩ ⟨rfl, rfl, (Nat.le_of_ble_eq_true rfl), (Nat.le_of_ble_eq_true rfl)⟩ rfl hl.1 (Nat.le_of_ble_eq_true rfl) rfl dX5_init_24 ⟨(Nat.le_of_ble_eq_true rfl), (Nat.le_of_ble_eq_true rfl)⟩ (fun g H locs hg G => ?_)
  have a30 := (hg 30 (Nat.le_of_ble_eq_true rfl)).trans a30
  have a31 := (hg 31 (Nat.le_of_ble_eq_true rfl)).trans a31
  have a33 := (hg 33 (Nat.le_of_ble_eq_true rfl)).trans a33
  have E : ∀ k, k < 31 → g k = g0 k := fun k hk => (hg k (Nat.lt_of_lt_of_le hk (Nat.le_of_ble_eq_true rfl))).trans (E k hk)
  refine W.widen (k := 4) (n := 108) (Nat.le_of_ble_eq_true rfl) (Nat.le_of_ble_eq_true rfl) ?_
  refine g_putF (k := 30) (ci := 5) (cs := [34, 2, 2, 2, 0]) hx hb hts hown 1 33 inlX5 tyX5 tyX5_ok nmX5 G rfl rfl (by decide) (by decide) wm_41 rfl hin rfl rfl rfl dX5_init_27 a30 a33 (show _ = WL51 from rfl) (fun H locs G => ?_)
  refine lv_aload_n hx hb dX5_init_30 rfl (lv_at hl 0 rfl) ?_
  refine g_newO (n := 35) (ci := 4) (C := RX4) (T := TX4) (N := 1) hx hb hts hown [2] inlX4 tyX4 tyX4_ok G hA rfl (by decide +kernel) rfl (fun j hj => by rcases (show j = 0 by omega) with rfl <;> rfl) (by decide) wm_39 wm_21 wm_22 (Nat.le_of_ble_eq_true rfl) (Nat.le_of_ble_eq_true rfl) dX5_init_31 (show _ = WL52 from rfl) (fun g x35 H a35 hg G => ?_)
  have a30 := (hg 30 (Nat.le_of_ble_eq_true rfl)).trans a30
  have a31 := (hg 31 (Nat.le_of_ble_eq_true rfl)).trans a31
  have a33 := (hg 33 (Nat.le_of_ble_eq_true rfl)).trans a33
  have E : ∀ k, k < 31 → g k = g0 k := fun k hk => (hg k (Nat.lt_of_lt_of_le hk (Nat.le_of_ble_eq_true rfl))).trans (E k hk)
  refine W.widen (k := 5) (n := 109) (Nat.le_of_ble_eq_true rfl) (Nat.le_of_ble_eq_true rfl) ?_
  refine lv_dup hx hb dX5_init_34 rfl ?_
  refine lv_bipush (v := iz 48) hx hb dX5_init_35 (by decide +kernel) ?_
  refine g_callC (n := 1) (rest := [.ref x35, .ref x30]) (n0 := 36) hx hb hml hts hown hNw hao hA G [.int (iz 48)] (c4_init l w _ _ _ 35 48 36 x35 a35 rfl (by decide +kernel) rfl (by decide) (i := 48) rfl (show _ = WL53 from rfl)) rfl wm_45 wm_46 wm_22 wm_47 rfl ⟨by decide +kernel, by decide +kernel, by decide +kernel⟩ ⟨rfl, rfl, (Nat.le_of_ble_eq_true rfl), (Nat.le_of_ble_eq_true rfl)⟩ rfl hl.1 (Nat.le_of_ble_eq_true rfl) rfl dX5_init_37 ⟨(Nat.le_of_ble_eq_true rfl), (Nat.le_of_ble_eq_true rfl)⟩ (fun g H locs hg G => ?_)
  have a30 := (hg 30 (Nat.le_of_ble_eq_true rfl)).trans a30
  have a31 := (hg 31 (Nat.le_of_ble_eq_true rfl)).trans a31
  have a33 := (hg 33 (Nat.le_of_ble_eq_true rfl)).trans a33
  have a35 := (hg 35 (Nat.le_of_ble_eq_true rfl)).trans a35
  have E : ∀ k, k < 31 → g k = g0 k := fun k hk => (hg k (Nat.lt_of_lt_of_le hk (Nat.le_of_ble_eq_true rfl))).trans (E k hk)
  refine W.widen (k := 6) (n := 157) (Nat.le_of_ble_eq_true rfl) (Nat.le_of_ble_eq_true rfl) ?_
  refine g_putF (k := 30) (ci := 5) (cs := [34, 36, 2, 2, 0]) hx hb hts hown 2 35 inlX5 tyX5 tyX5_ok nmX5 G rfl rfl (by decide) (by decide) wm_42 rfl hin rfl rfl rfl dX5_init_40 a30 a35 (show _ = WL54 from rfl) (fun H locs G => ?_)
  refine lv_aload_n hx hb dX5_init_43 rfl (lv_at hl 0 rfl) ?_
  refine g_newO (n := 37) (ci := 4) (C := RX4) (T := TX4) (N := 1) hx hb hts hown [2] inlX4 tyX4 tyX4_ok G hA rfl (by decide +kernel) rfl (fun j hj => by rcases (show j = 0 by omega) with rfl <;> rfl) (by decide) wm_39 wm_21 wm_22 (Nat.le_of_ble_eq_true rfl) (Nat.le_of_ble_eq_true rfl) dX5_init_44 (show _ = WL55 from rfl) (fun g x37 H a37 hg G => ?_)
  have a30 := (hg 30 (Nat.le_of_ble_eq_true rfl)).trans a30
  have a31 := (hg 31 (Nat.le_of_ble_eq_true rfl)).trans a31
  have a33 := (hg 33 (Nat.le_of_ble_eq_true rfl)).trans a33
  have a35 := (hg 35 (Nat.le_of_ble_eq_true rfl)).trans a35
  have E : ∀ k, k < 31 → g k = g0 k := fun k hk => (hg k (Nat.lt_of_lt_of_le hk (Nat.le_of_ble_eq_true rfl))).trans (E k hk)
  refine W.widen (k := 7) (n := 158) (Nat.le_of_ble_eq_true rfl) (Nat.le_of_ble_eq_true rfl) ?_
  refine lv_dup hx hb dX5_init_47 rfl ?_
  refine lv_bipush (v := iz 6) hx hb dX5_init_48 (by decide +kernel) ?_
  refine g_callC (n := 1) (rest := [.ref x37, .ref x30]) (n0 := 38) hx hb hml hts hown hNw hao hA G [.int (iz 6)] (c4_init l w _ _ _ 37 6 38 x37 a37 rfl (by decide +kernel) rfl (by decide) (i := 6) rfl (show _ = WL56 from rfl)) rfl wm_45 wm_46 wm_22 wm_47 rfl ⟨by decide +kernel, by decide +kernel, by decide +kernel⟩ ⟨rfl, rfl, (Nat.le_of_ble_eq_true rfl), (Nat.le_of_ble_eq_true rfl)⟩ rfl hl.1 (Nat.le_of_ble_eq_true rfl) rfl dX5_init_50 ⟨(Nat.le_of_ble_eq_true rfl), (Nat.le_of_ble_eq_true rfl)⟩ (fun g H locs hg G => ?_)
  have a30 := (hg 30 (Nat.le_of_ble_eq_true rfl)).trans a30
  have a31 := (hg 31 (Nat.le_of_ble_eq_true rfl)).trans a31
  have a33 := (hg 33 (Nat.le_of_ble_eq_true rfl)).trans a33
  have a35 := (hg 35 (Nat.le_of_ble_eq_true rfl)).trans a35
  have a37 := (hg 37 (Nat.le_of_ble_eq_true rfl)).trans a37
  have E : ∀ k, k < 31 → g k = g0 k := fun k hk => (hg k (Nat.lt_of_lt_of_le hk (Nat.le_of_ble_eq_true rfl))).trans (E k hk)
  refine W.widen (k := 8) (n := 164) (Nat.le_of_ble_eq_true rfl) (Nat.le_of_ble_eq_true rfl) ?_
  refine g_putF (k := 30) (ci := 5) (cs := [34, 36, 38, 2, 0]) hx hb hts hown 3 37 inlX5 tyX5 tyX5_ok nmX5 G rfl rfl (by decide) (by decide) wm_43 rfl hin rfl rfl rfl dX5_init_53 a30 a37 (show _ = WL57 from rfl) (fun H locs G => ?_)
  refine lv_aload_n hx hb dX5_init_56 rfl (lv_at hl 0 rfl) ?_
  refine lv_iconst (v := iz 0) hx hb dX5_init_57 rfl ?_
  refine g_putA (k := 30) (ci := 5) (cs := [34, 36, 38, 40, 0]) hx hb hts hown 4 inlX5 tyX5 tyX5_ok nmX5 G rfl rfl (by decide) rfl wm_44 rfl rfl rfl dX5_init_58 a30 (fun H locs G => ?_)
  refine lv_aload_n hx hb dX5_init_61 rfl (lv_at hl 0 rfl) ?_
  refine g_getA (k := 30) (ci := 5) (cs := [34, 36, 38, 40, 0]) hx hb hts hown 3 37 inlX5 G rfl rfl (by decide) rfl wm_43 dX5_init_62 a30 a37 ?_
  refine lv_iconst (v := iz (-1)) hx hb dX5_init_65 rfl ?_
  refine g_callVv (w := gw w g) (rest := []) hx hb hml hts hown hNw hA G [.int (iz (-1))] (cS_X4_fill WL57 l (gw w g) _ _ 37 6 ⟨rfl, rfl⟩ (by decide) (-1) trivial) (show WL57[37]? = some (1, 4, [41]) from rfl) rfl wm_51 wm_52 wm_53 wm_22 wm_54 hd_X4_fill ⟨rfl, rfl, (Nat.le_of_ble_eq_true rfl), (Nat.le_of_ble_eq_true rfl)⟩ rfl hl.1 (Nat.le_of_ble_eq_true rfl) (by show _ = [Value.int (iz (-1)), Value.ref (g 37)]; rw [a37]) dX5_init_66 ⟨(Nat.le_of_ble_eq_true rfl), (Nat.le_of_ble_eq_true rfl)⟩ (fun s1 H locs h G => ?_)
  rw [h] at G
  exact g_cret (n0 := 31) hx hb hr hlk rfl hz E G (Nat.le_of_ble_eq_true rfl) (Nat.le_of_ble_eq_true rfl) dX5_init_69
def WL58 : List Sh := [(1, 6, [4, 2, 2, 2, 2, 2, 0, 0]), (1, 5, [5, 7, 9, 11, 0]), (1, 4, [6]), (0, 100, []), (1, 4, [8]), (0, 6, []), (1, 4, [10]), (0, 48, []), (1, 4, [12]), (0, 6, []), (1, 1, [2, 0, 0]), (2, 4, [15, 24, 33, 2]), (1, 5, [16, 18, 20, 22, 0]), (1, 4, [17]), (0, 100, []), (1, 4, [19]), (0, 6, []), (1, 4, [21]), (0, 48, []), (1, 4, [23]), (0, 6, []), (1, 5, [25, 27, 29, 31, 0]), (1, 4, [26]), (0, 100, []), (1, 4, [28]), (0, 6, []), (1, 4, [30]), (0, 48, []), (1, 4, [32]), (0, 6, []), (1, 5, [34, 36, 38, 40, 0]), (1, 4, [35]), (0, 100, []), (1, 4, [37]), (0, 6, []), (1, 4, [39]), (0, 48, []), (1, 4, [41]), (0, 6, [])]
def WL59 : List Sh := [(1, 6, [4, 2, 2, 2, 2, 2, 0, 0]), (1, 5, [5, 7, 9, 11, 0]), (1, 4, [6]), (0, 100, []), (1, 4, [8]), (0, 6, []), (1, 4, [10]), (0, 48, []), (1, 4, [12]), (0, 6, []), (1, 1, [2, 0, 0]), (2, 4, [15, 24, 33, 2]), (1, 5, [16, 18, 20, 22, 0]), (1, 4, [17]), (0, 100, []), (1, 4, [19]), (0, 6, []), (1, 4, [21]), (0, 48, []), (1, 4, [23]), (0, 6, []), (1, 5, [25, 27, 29, 31, 0]), (1, 4, [26]), (0, 100, []), (1, 4, [28]), (0, 6, []), (1, 4, [30]), (0, 48, []), (1, 4, [32]), (0, 6, []), (1, 5, [34, 36, 38, 40, 0]), (1, 4, [35]), (0, 100, []), (1, 4, [37]), (0, 6, []), (1, 4, [39]), (0, 48, []), (1, 4, [41]), (0, 6, []), (1, 5, [2, 2, 2, 2, 0])]
def WL60 : List Sh := [(1, 6, [4, 2, 2, 2, 2, 2, 0, 0]), (1, 5, [5, 7, 9, 11, 0]), (1, 4, [6]), (0, 100, []), (1, 4, [8]), (0, 6, []), (1, 4, [10]), (0, 48, []), (1, 4, [12]), (0, 6, []), (1, 1, [2, 0, 0]), (2, 4, [15, 24, 33, 2]), (1, 5, [16, 18, 20, 22, 0]), (1, 4, [17]), (0, 100, []), (1, 4, [19]), (0, 6, []), (1, 4, [21]), (0, 48, []), (1, 4, [23]), (0, 6, []), (1, 5, [25, 27, 29, 31, 0]), (1, 4, [26]), (0, 100, []), (1, 4, [28]), (0, 6, []), (1, 4, [30]), (0, 48, []), (1, 4, [32]), (0, 6, []), (1, 5, [34, 36, 38, 40, 0]), (1, 4, [35]), (0, 100, []), (1, 4, [37]), (0, 6, []), (1, 4, [39]), (0, 48, []), (1, 4, [41]), (0, 6, []), (1, 5, [2, 2, 2, 2, 0]), (1, 4, [2])]
def WL61 : List Sh := [(1, 6, [4, 2, 2, 2, 2, 2, 0, 0]), (1, 5, [5, 7, 9, 11, 0]), (1, 4, [6]), (0, 100, []), (1, 4, [8]), (0, 6, []), (1, 4, [10]), (0, 48, []), (1, 4, [12]), (0, 6, []), (1, 1, [2, 0, 0]), (2, 4, [15, 24, 33, 2]), (1, 5, [16, 18, 20, 22, 0]), (1, 4, [17]), (0, 100, []), (1, 4, [19]), (0, 6, []), (1, 4, [21]), (0, 48, []), (1, 4, [23]), (0, 6, []), (1, 5, [25, 27, 29, 31, 0]), (1, 4, [26]), (0, 100, []), (1, 4, [28]), (0, 6, []), (1, 4, [30]), (0, 48, []), (1, 4, [32]), (0, 6, []), (1, 5, [34, 36, 38, 40, 0]), (1, 4, [35]), (0, 100, []), (1, 4, [37]), (0, 6, []), (1, 4, [39]), (0, 48, []), (1, 4, [41]), (0, 6, []), (1, 5, [2, 2, 2, 2, 0]), (1, 4, [44]), (0, 100, [])]
def WL62 : List Sh := [(1, 6, [4, 2, 2, 2, 2, 2, 0, 0]), (1, 5, [5, 7, 9, 11, 0]), (1, 4, [6]), (0, 100, []), (1, 4, [8]), (0, 6, []), (1, 4, [10]), (0, 48, []), (1, 4, [12]), (0, 6, []), (1, 1, [2, 0, 0]), (2, 4, [15, 24, 33, 2]), (1, 5, [16, 18, 20, 22, 0]), (1, 4, [17]), (0, 100, []), (1, 4, [19]), (0, 6, []), (1, 4, [21]), (0, 48, []), (1, 4, [23]), (0, 6, []), (1, 5, [25, 27, 29, 31, 0]), (1, 4, [26]), (0, 100, []), (1, 4, [28]), (0, 6, []), (1, 4, [30]), (0, 48, []), (1, 4, [32]), (0, 6, []), (1, 5, [34, 36, 38, 40, 0]), (1, 4, [35]), (0, 100, []), (1, 4, [37]), (0, 6, []), (1, 4, [39]), (0, 48, []), (1, 4, [41]), (0, 6, []), (1, 5, [43, 2, 2, 2, 0]), (1, 4, [44]), (0, 100, [])]
def WL63 : List Sh := [(1, 6, [4, 2, 2, 2, 2, 2, 0, 0]), (1, 5, [5, 7, 9, 11, 0]), (1, 4, [6]), (0, 100, []), (1, 4, [8]), (0, 6, []), (1, 4, [10]), (0, 48, []), (1, 4, [12]), (0, 6, []), (1, 1, [2, 0, 0]), (2, 4, [15, 24, 33, 2]), (1, 5, [16, 18, 20, 22, 0]), (1, 4, [17]), (0, 100, []), (1, 4, [19]), (0, 6, []), (1, 4, [21]), (0, 48, []), (1, 4, [23]), (0, 6, []), (1, 5, [25, 27, 29, 31, 0]), (1, 4, [26]), (0, 100, []), (1, 4, [28]), (0, 6, []), (1, 4, [30]), (0, 48, []), (1, 4, [32]), (0, 6, []), (1, 5, [34, 36, 38, 40, 0]), (1, 4, [35]), (0, 100, []), (1, 4, [37]), (0, 6, []), (1, 4, [39]), (0, 48, []), (1, 4, [41]), (0, 6, []), (1, 5, [43, 2, 2, 2, 0]), (1, 4, [44]), (0, 100, []), (1, 4, [2])]
def WL64 : List Sh := [(1, 6, [4, 2, 2, 2, 2, 2, 0, 0]), (1, 5, [5, 7, 9, 11, 0]), (1, 4, [6]), (0, 100, []), (1, 4, [8]), (0, 6, []), (1, 4, [10]), (0, 48, []), (1, 4, [12]), (0, 6, []), (1, 1, [2, 0, 0]), (2, 4, [15, 24, 33, 2]), (1, 5, [16, 18, 20, 22, 0]), (1, 4, [17]), (0, 100, []), (1, 4, [19]), (0, 6, []), (1, 4, [21]), (0, 48, []), (1, 4, [23]), (0, 6, []), (1, 5, [25, 27, 29, 31, 0]), (1, 4, [26]), (0, 100, []), (1, 4, [28]), (0, 6, []), (1, 4, [30]), (0, 48, []), (1, 4, [32]), (0, 6, []), (1, 5, [34, 36, 38, 40, 0]), (1, 4, [35]), (0, 100, []), (1, 4, [37]), (0, 6, []), (1, 4, [39]), (0, 48, []), (1, 4, [41]), (0, 6, []), (1, 5, [43, 2, 2, 2, 0]), (1, 4, [44]), (0, 100, []), (1, 4, [46]), (0, 6, [])]
def WL65 : List Sh := [(1, 6, [4, 2, 2, 2, 2, 2, 0, 0]), (1, 5, [5, 7, 9, 11, 0]), (1, 4, [6]), (0, 100, []), (1, 4, [8]), (0, 6, []), (1, 4, [10]), (0, 48, []), (1, 4, [12]), (0, 6, []), (1, 1, [2, 0, 0]), (2, 4, [15, 24, 33, 2]), (1, 5, [16, 18, 20, 22, 0]), (1, 4, [17]), (0, 100, []), (1, 4, [19]), (0, 6, []), (1, 4, [21]), (0, 48, []), (1, 4, [23]), (0, 6, []), (1, 5, [25, 27, 29, 31, 0]), (1, 4, [26]), (0, 100, []), (1, 4, [28]), (0, 6, []), (1, 4, [30]), (0, 48, []), (1, 4, [32]), (0, 6, []), (1, 5, [34, 36, 38, 40, 0]), (1, 4, [35]), (0, 100, []), (1, 4, [37]), (0, 6, []), (1, 4, [39]), (0, 48, []), (1, 4, [41]), (0, 6, []), (1, 5, [43, 45, 2, 2, 0]), (1, 4, [44]), (0, 100, []), (1, 4, [46]), (0, 6, [])]
def WL66 : List Sh := [(1, 6, [4, 2, 2, 2, 2, 2, 0, 0]), (1, 5, [5, 7, 9, 11, 0]), (1, 4, [6]), (0, 100, []), (1, 4, [8]), (0, 6, []), (1, 4, [10]), (0, 48, []), (1, 4, [12]), (0, 6, []), (1, 1, [2, 0, 0]), (2, 4, [15, 24, 33, 2]), (1, 5, [16, 18, 20, 22, 0]), (1, 4, [17]), (0, 100, []), (1, 4, [19]), (0, 6, []), (1, 4, [21]), (0, 48, []), (1, 4, [23]), (0, 6, []), (1, 5, [25, 27, 29, 31, 0]), (1, 4, [26]), (0, 100, []), (1, 4, [28]), (0, 6, []), (1, 4, [30]), (0, 48, []), (1, 4, [32]), (0, 6, []), (1, 5, [34, 36, 38, 40, 0]), (1, 4, [35]), (0, 100, []), (1, 4, [37]), (0, 6, []), (1, 4, [39]), (0, 48, []), (1, 4, [41]), (0, 6, []), (1, 5, [43, 45, 2, 2, 0]), (1, 4, [44]), (0, 100, []), (1, 4, [46]), (0, 6, []), (1, 4, [2])]
def WL67 : List Sh := [(1, 6, [4, 2, 2, 2, 2, 2, 0, 0]), (1, 5, [5, 7, 9, 11, 0]), (1, 4, [6]), (0, 100, []), (1, 4, [8]), (0, 6, []), (1, 4, [10]), (0, 48, []), (1, 4, [12]), (0, 6, []), (1, 1, [2, 0, 0]), (2, 4, [15, 24, 33, 2]), (1, 5, [16, 18, 20, 22, 0]), (1, 4, [17]), (0, 100, []), (1, 4, [19]), (0, 6, []), (1, 4, [21]), (0, 48, []), (1, 4, [23]), (0, 6, []), (1, 5, [25, 27, 29, 31, 0]), (1, 4, [26]), (0, 100, []), (1, 4, [28]), (0, 6, []), (1, 4, [30]), (0, 48, []), (1, 4, [32]), (0, 6, []), (1, 5, [34, 36, 38, 40, 0]), (1, 4, [35]), (0, 100, []), (1, 4, [37]), (0, 6, []), (1, 4, [39]), (0, 48, []), (1, 4, [41]), (0, 6, []), (1, 5, [43, 45, 2, 2, 0]), (1, 4, [44]), (0, 100, []), (1, 4, [46]), (0, 6, []), (1, 4, [48]), (0, 48, [])]
def WL68 : List Sh := [(1, 6, [4, 2, 2, 2, 2, 2, 0, 0]), (1, 5, [5, 7, 9, 11, 0]), (1, 4, [6]), (0, 100, []), (1, 4, [8]), (0, 6, []), (1, 4, [10]), (0, 48, []), (1, 4, [12]), (0, 6, []), (1, 1, [2, 0, 0]), (2, 4, [15, 24, 33, 2]), (1, 5, [16, 18, 20, 22, 0]), (1, 4, [17]), (0, 100, []), (1, 4, [19]), (0, 6, []), (1, 4, [21]), (0, 48, []), (1, 4, [23]), (0, 6, []), (1, 5, [25, 27, 29, 31, 0]), (1, 4, [26]), (0, 100, []), (1, 4, [28]), (0, 6, []), (1, 4, [30]), (0, 48, []), (1, 4, [32]), (0, 6, []), (1, 5, [34, 36, 38, 40, 0]), (1, 4, [35]), (0, 100, []), (1, 4, [37]), (0, 6, []), (1, 4, [39]), (0, 48, []), (1, 4, [41]), (0, 6, []), (1, 5, [43, 45, 47, 2, 0]), (1, 4, [44]), (0, 100, []), (1, 4, [46]), (0, 6, []), (1, 4, [48]), (0, 48, [])]
def WL69 : List Sh := [(1, 6, [4, 2, 2, 2, 2, 2, 0, 0]), (1, 5, [5, 7, 9, 11, 0]), (1, 4, [6]), (0, 100, []), (1, 4, [8]), (0, 6, []), (1, 4, [10]), (0, 48, []), (1, 4, [12]), (0, 6, []), (1, 1, [2, 0, 0]), (2, 4, [15, 24, 33, 2]), (1, 5, [16, 18, 20, 22, 0]), (1, 4, [17]), (0, 100, []), (1, 4, [19]), (0, 6, []), (1, 4, [21]), (0, 48, []), (1, 4, [23]), (0, 6, []), (1, 5, [25, 27, 29, 31, 0]), (1, 4, [26]), (0, 100, []), (1, 4, [28]), (0, 6, []), (1, 4, [30]), (0, 48, []), (1, 4, [32]), (0, 6, []), (1, 5, [34, 36, 38, 40, 0]), (1, 4, [35]), (0, 100, []), (1, 4, [37]), (0, 6, []), (1, 4, [39]), (0, 48, []), (1, 4, [41]), (0, 6, []), (1, 5, [43, 45, 47, 2, 0]), (1, 4, [44]), (0, 100, []), (1, 4, [46]), (0, 6, []), (1, 4, [48]), (0, 48, []), (1, 4, [2])]
def WL70 : List Sh := [(1, 6, [4, 2, 2, 2, 2, 2, 0, 0]), (1, 5, [5, 7, 9, 11, 0]), (1, 4, [6]), (0, 100, []), (1, 4, [8]), (0, 6, []), (1, 4, [10]), (0, 48, []), (1, 4, [12]), (0, 6, []), (1, 1, [2, 0, 0]), (2, 4, [15, 24, 33, 2]), (1, 5, [16, 18, 20, 22, 0]), (1, 4, [17]), (0, 100, []), (1, 4, [19]), (0, 6, []), (1, 4, [21]), (0, 48, []), (1, 4, [23]), (0, 6, []), (1, 5, [25, 27, 29, 31, 0]), (1, 4, [26]), (0, 100, []), (1, 4, [28]), (0, 6, []), (1, 4, [30]), (0, 48, []), (1, 4, [32]), (0, 6, []), (1, 5, [34, 36, 38, 40, 0]), (1, 4, [35]), (0, 100, []), (1, 4, [37]), (0, 6, []), (1, 4, [39]), (0, 48, []), (1, 4, [41]), (0, 6, []), (1, 5, [43, 45, 47, 2, 0]), (1, 4, [44]), (0, 100, []), (1, 4, [46]), (0, 6, []), (1, 4, [48]), (0, 48, []), (1, 4, [50]), (0, 6, [])]
def WL71 : List Sh := [(1, 6, [4, 2, 2, 2, 2, 2, 0, 0]), (1, 5, [5, 7, 9, 11, 0]), (1, 4, [6]), (0, 100, []), (1, 4, [8]), (0, 6, []), (1, 4, [10]), (0, 48, []), (1, 4, [12]), (0, 6, []), (1, 1, [2, 0, 0]), (2, 4, [15, 24, 33, 2]), (1, 5, [16, 18, 20, 22, 0]), (1, 4, [17]), (0, 100, []), (1, 4, [19]), (0, 6, []), (1, 4, [21]), (0, 48, []), (1, 4, [23]), (0, 6, []), (1, 5, [25, 27, 29, 31, 0]), (1, 4, [26]), (0, 100, []), (1, 4, [28]), (0, 6, []), (1, 4, [30]), (0, 48, []), (1, 4, [32]), (0, 6, []), (1, 5, [34, 36, 38, 40, 0]), (1, 4, [35]), (0, 100, []), (1, 4, [37]), (0, 6, []), (1, 4, [39]), (0, 48, []), (1, 4, [41]), (0, 6, []), (1, 5, [43, 45, 47, 49, 0]), (1, 4, [44]), (0, 100, []), (1, 4, [46]), (0, 6, []), (1, 4, [48]), (0, 48, []), (1, 4, [50]), (0, 6, [])]
def sg_State_39 (σ : St) : St := (eff_X4_fill 46 6 (-1) (up (ur (ur (ur (ur (ur (ur (ur (ur σ 40 (fun _ => 0)) 41 (fun _ => 0)) 42 (fun _ => 0)) 43 (fun _ => 0)) 44 (fun _ => 0)) 45 (fun _ => 0)) 46 (fun _ => 0)) 47 (fun _ => 0)) 39 4 0))
abbrev rc_State_39 : Room := ({ frames := 2, cells := 8, slots := 164, locals := 33 } : Room)
set_option maxHeartbeats 4000000 in
set_option maxRecDepth 100000 in
theorem cc_State_39 (l : Launch) (w : GW) (g0 : Nat → Nat) (σ : St) (sz : Nat) (x39 : Nat) (a39 : g0 39 = x39) : Met l yX5_init (Cond.code yX5_init cX5_init 1 none :: wsL_law) rc_State_39 (gPcC (gw w g0) WL59 σ sz [.ref x39]) (gQc w g0 WL59.length sz WL71 (sg_State_39 σ)) 8 164 (gA (gw w g0) WL59.length sz) := by
  refine g_metC (by decide) [.ref x39] (Nat.le_of_ble_eq_true rfl) ?_
  intro p e s m below meth c ls hz C0 hin hao hl G
  obtain ⟨hx, hb, hr, hml, hown, hts, hlk, hNw, hA⟩ := id C0
  have hown : s.vm.findClass RX5 = some m.cls := hown
  have hl : lv_has ls 1 [(0, .ref x39)] := hl
  have E : ∀ k, k < 40 → g0 k = g0 k := fun _ _ => rfl
  refine lv_aload_n hx hb dX5_init_0 rfl (lv_at hl 0 rfl) ?_
  refine g_objI hx hb hml hts hown wm_38 wm_10 wm_11 hl.1 (Nat.le_of_ble_eq_true rfl) (Nat.le_of_ble_eq_true rfl) dX5_init_1 ?_
  refine lv_aload_n hx hb dX5_init_4 rfl (lv_at hl 0 rfl) ?_
  refine g_newO (n := 40) (ci := 4) (C := RX4) (T := TX4) (N := 1) hx hb hts hown [2] inlX4 tyX4 tyX4_ok G hA rfl (by decide +kernel) rfl (fun j hj => by rcases (show j = 0 by omega) with rfl <;> rfl) (by decide) wm_39 wm_21 wm_22 (Nat.le_of_ble_eq_true rfl) (Nat.le_of_ble_eq_true rfl) dX5_init_5 (show _ = WL60 from rfl) (fun g x40 H a40 hg G => ?_)
  have a39 := (hg 39 (Nat.le_of_ble_eq_true rfl)).trans a39
  have E : ∀ k, k < 40 → g k = g0 k := fun k hk => (hg k (Nat.lt_of_lt_of_le hk (Nat.le_of_ble_eq_true rfl))).trans (E k hk)
  refine W.widen (k := 1) (n := 1) (Nat.le_of_ble_eq_true rfl) (Nat.le_of_ble_eq_true rfl) ?_
  refine lv_dup hx hb dX5_init_8 rfl ?_
  refine lv_bipush (v := iz 100) hx hb dX5_init_9 (by decide +kernel) ?_
  refine g_callC (n := 1) (rest := [.ref x40, .ref x39]) (n0 := 41) hx hb hml hts hown hNw hao hA G [.int (iz 100)] (c4_init l w _ _ _ 40 100 41 x40 a40 rfl (by decide +kernel) rfl (by decide) (i := 100) rfl (show _ = WL61 from rfl)) rfl wm_45 wm_46 wm_22 wm_47 rfl ⟨by decide +kernel, by decide +kernel, by decide +kernel⟩ ⟨rfl, rfl, (Nat.le_of_ble_eq_true rfl), (Nat.le_of_ble_eq_true rfl)⟩ rfl hl.1 (Nat.le_of_ble_eq_true rfl) rfl dX5_init_11 ⟨(Nat.le_of_ble_eq_true rfl), (Nat.le_of_ble_eq_true rfl)⟩ (fun g H locs hg G => ?_)
  have a39 := (hg 39 (Nat.le_of_ble_eq_true rfl)).trans a39
  have a40 := (hg 40 (Nat.le_of_ble_eq_true rfl)).trans a40
  have E : ∀ k, k < 40 → g k = g0 k := fun k hk => (hg k (Nat.lt_of_lt_of_le hk (Nat.le_of_ble_eq_true rfl))).trans (E k hk)
  refine W.widen (k := 2) (n := 101) (Nat.le_of_ble_eq_true rfl) (Nat.le_of_ble_eq_true rfl) ?_
  refine g_putF (k := 39) (ci := 5) (cs := [2, 2, 2, 2, 0]) hx hb hts hown 0 40 inlX5 tyX5 tyX5_ok nmX5 G rfl rfl (by decide) (by decide) wm_40 rfl hin rfl rfl rfl dX5_init_14 a39 a40 (show _ = WL62 from rfl) (fun H locs G => ?_)
  refine lv_aload_n hx hb dX5_init_17 rfl (lv_at hl 0 rfl) ?_
  refine g_newO (n := 42) (ci := 4) (C := RX4) (T := TX4) (N := 1) hx hb hts hown [2] inlX4 tyX4 tyX4_ok G hA rfl (by decide +kernel) rfl (fun j hj => by rcases (show j = 0 by omega) with rfl <;> rfl) (by decide) wm_39 wm_21 wm_22 (Nat.le_of_ble_eq_true rfl) (Nat.le_of_ble_eq_true rfl) dX5_init_18 (show _ = WL63 from rfl) (fun g x42 H a42 hg G => ?_)
  have a39 := (hg 39 (Nat.le_of_ble_eq_true rfl)).trans a39
  have a40 := (hg 40 (Nat.le_of_ble_eq_true rfl)).trans a40
  have E : ∀ k, k < 40 → g k = g0 k := fun k hk => (hg k (Nat.lt_of_lt_of_le hk (Nat.le_of_ble_eq_true rfl))).trans (E k hk)
  refine W.widen (k := 3) (n := 102) (Nat.le_of_ble_eq_true rfl) (Nat.le_of_ble_eq_true rfl) ?_
  refine lv_dup hx hb dX5_init_21 rfl ?_
  refine lv_bipush (v := iz 6) hx hb dX5_init_22 (by decide +kernel) ?_
  refine g_callC (n := 1) (rest := [.ref x42, .ref x39]) (n0 := 43) hx hb hml hts hown hNw hao hA G [.int (iz 6)] (c4_init l w _ _ _ 42 6 43 x42 a42 rfl (by decide +kernel) rfl (by decide) (i := 6) rfl (show _ = WL64 from rfl)) rfl wm_45 wm_46 wm_22 wm_47 rfl ⟨by decide +kernel, by decide +kernel, by decide +kernel⟩ ⟨rfl, rfl, (Nat.le_of_ble_eq_true rfl), (Nat.le_of_ble_eq_true rfl)⟩ rfl hl.1 (Nat.le_of_ble_eq_true rfl) rfl dX5_init_24 ⟨(Nat.le_of_ble_eq_true rfl), (Nat.le_of_ble_eq_true rfl)⟩ (fun g H locs hg G => ?_)
  have a39 := (hg 39 (Nat.le_of_ble_eq_true rfl)).trans a39
  have a40 := (hg 40 (Nat.le_of_ble_eq_true rfl)).trans a40
  have a42 := (hg 42 (Nat.le_of_ble_eq_true rfl)).trans a42
  have E : ∀ k, k < 40 → g k = g0 k := fun k hk => (hg k (Nat.lt_of_lt_of_le hk (Nat.le_of_ble_eq_true rfl))).trans (E k hk)
  refine W.widen (k := 4) (n := 108) (Nat.le_of_ble_eq_true rfl) (Nat.le_of_ble_eq_true rfl) ?_
  refine g_putF (k := 39) (ci := 5) (cs := [43, 2, 2, 2, 0]) hx hb hts hown 1 42 inlX5 tyX5 tyX5_ok nmX5 G rfl rfl (by decide) (by decide) wm_41 rfl hin rfl rfl rfl dX5_init_27 a39 a42 (show _ = WL65 from rfl) (fun H locs G => ?_)
  refine lv_aload_n hx hb dX5_init_30 rfl (lv_at hl 0 rfl) ?_
  refine g_newO (n := 44) (ci := 4) (C := RX4) (T := TX4) (N := 1) hx hb hts hown [2] inlX4 tyX4 tyX4_ok G hA rfl (by decide +kernel) rfl (fun j hj => by rcases (show j = 0 by omega) with rfl <;> rfl) (by decide) wm_39 wm_21 wm_22 (Nat.le_of_ble_eq_true rfl) (Nat.le_of_ble_eq_true rfl) dX5_init_31 (show _ = WL66 from rfl) (fun g x44 H a44 hg G => ?_)
  have a39 := (hg 39 (Nat.le_of_ble_eq_true rfl)).trans a39
  have a40 := (hg 40 (Nat.le_of_ble_eq_true rfl)).trans a40
  have a42 := (hg 42 (Nat.le_of_ble_eq_true rfl)).trans a42
  have E : ∀ k, k < 40 → g k = g0 k := fun k hk => (hg k (Nat.lt_of_lt_of_le hk (Nat.le_of_ble_eq_true rfl))).trans (E k hk)
  refine W.widen (k := 5) (n := 109) (Nat.le_of_ble_eq_true rfl) (Nat.le_of_ble_eq_true rfl) ?_
  refine lv_dup hx hb dX5_init_34 rfl ?_
  refine lv_bipush (v := iz 48) hx hb dX5_init_35 (by decide +kernel) ?_
  refine g_callC (n := 1) (rest := [.ref x44, .ref x39]) (n0 := 45) hx hb hml hts hown hNw hao hA G [.int (iz 48)] (c4_init l w _ _ _ 44 48 45 x44 a44 rfl (by decide +kernel) rfl (by decide) (i := 48) rfl (show _ = WL67 from rfl)) rfl wm_45 wm_46 wm_22 wm_47 rfl ⟨by decide +kernel, by decide +kernel, by decide +kernel⟩ ⟨rfl, rfl, (Nat.le_of_ble_eq_true rfl), (Nat.le_of_ble_eq_true rfl)⟩ rfl hl.1 (Nat.le_of_ble_eq_true rfl) rfl dX5_init_37 ⟨(Nat.le_of_ble_eq_true rfl), (Nat.le_of_ble_eq_true rfl)⟩ (fun g H locs hg G => ?_)
  have a39 := (hg 39 (Nat.le_of_ble_eq_true rfl)).trans a39
  have a40 := (hg 40 (Nat.le_of_ble_eq_true rfl)).trans a40
  have a42 := (hg 42 (Nat.le_of_ble_eq_true rfl)).trans a42
  have a44 := (hg 44 (Nat.le_of_ble_eq_true rfl)).trans a44
  have E : ∀ k, k < 40 → g k = g0 k := fun k hk => (hg k (Nat.lt_of_lt_of_le hk (Nat.le_of_ble_eq_true rfl))).trans (E k hk)
  refine W.widen (k := 6) (n := 157) (Nat.le_of_ble_eq_true rfl) (Nat.le_of_ble_eq_true rfl) ?_
  refine g_putF (k := 39) (ci := 5) (cs := [43, 45, 2, 2, 0]) hx hb hts hown 2 44 inlX5 tyX5 tyX5_ok nmX5 G rfl rfl (by decide) (by decide) wm_42 rfl hin rfl rfl rfl dX5_init_40 a39 a44 (show _ = WL68 from rfl) (fun H locs G => ?_)
  refine lv_aload_n hx hb dX5_init_43 rfl (lv_at hl 0 rfl) ?_
  refine g_newO (n := 46) (ci := 4) (C := RX4) (T := TX4) (N := 1) hx hb hts hown [2] inlX4 tyX4 tyX4_ok G hA rfl (by decide +kernel) rfl (fun j hj => by rcases (show j = 0 by omega) with rfl <;> rfl) (by decide) wm_39 wm_21 wm_22 (Nat.le_of_ble_eq_true rfl) (Nat.le_of_ble_eq_true rfl) dX5_init_44 (show _ = WL69 from rfl) (fun g x46 H a46 hg G => ?_)
  have a39 := (hg 39 (Nat.le_of_ble_eq_true rfl)).trans a39
  have a40 := (hg 40 (Nat.le_of_ble_eq_true rfl)).trans a40
  have a42 := (hg 42 (Nat.le_of_ble_eq_true rfl)).trans a42
  have a44 := (hg 44 (Nat.le_of_ble_eq_true rfl)).trans a44
  have E : ∀ k, k < 40 → g k = g0 k := fun k hk => (hg k (Nat.lt_of_lt_of_le hk (Nat.le_of_ble_eq_true rfl))).trans (E k hk)
  refine W.widen (k := 7) (n := 158) (Nat.le_of_ble_eq_true rfl) (Nat.le_of_ble_eq_true rfl) ?_
  refine lv_dup hx hb dX5_init_47 rfl ?_
  refine lv_bipush (v := iz 6) hx hb dX5_init_48 (by decide +kernel) ?_
  refine g_callC (n := 1) (rest := [.ref x46, .ref x39]) (n0 := 47) hx hb hml hts hown hNw hao hA G [.int (iz 6)] (c4_init l w _ _ _ 46 6 47 x46 a46 rfl (by decide +kernel) rfl (by decide) (i := 6) rfl (show _ = WL70 from rfl)) rfl wm_45 wm_46 wm_22 wm_47 rfl ⟨by decide +kernel, by decide +kernel, by decide +kernel⟩ ⟨rfl, rfl, (Nat.le_of_ble_eq_true rfl), (Nat.le_of_ble_eq_true rfl)⟩ rfl hl.1 (Nat.le_of_ble_eq_true rfl) rfl dX5_init_50 ⟨(Nat.le_of_ble_eq_true rfl), (Nat.le_of_ble_eq_true rfl)⟩ (fun g H locs hg G => ?_)
  have a39 := (hg 39 (Nat.le_of_ble_eq_true rfl)).trans a39
  have a40 := (hg 40 (Nat.le_of_ble_eq_true rfl)).trans a40
  have a42 := (hg 42 (Nat.le_of_ble_eq_true rfl)).trans a42
  have a44 := (hg 44 (Nat.le_of_ble_eq_true rfl)).trans a44
  have a46 := (hg 46 (Nat.le_of_ble_eq_true rfl)).trans a46
  have E : ∀ k, k < 40 → g k = g0 k := fun k hk => (hg k (Nat.lt_of_lt_of_le hk (Nat.le_of_ble_eq_true rfl))).trans (E k hk)
  refine W.widen (k := 8) (n := 164) (Nat.le_of_ble_eq_true rfl) (Nat.le_of_ble_eq_true rfl) ?_
  refine g_putF (k := 39) (ci := 5) (cs := [43, 45, 47, 2, 0]) hx hb hts hown 3 46 inlX5 tyX5 tyX5_ok nmX5 G rfl rfl (by decide) (by decide) wm_43 rfl hin rfl rfl rfl dX5_init_53 a39 a46 (show _ = WL71 from rfl) (fun H locs G => ?_)
  refine lv_aload_n hx hb dX5_init_56 rfl (lv_at hl 0 rfl) ?_
  refine lv_iconst (v := iz 0) hx hb dX5_init_57 rfl ?_
  refine g_putA (k := 39) (ci := 5) (cs := [43, 45, 47, 49, 0]) hx hb hts hown 4 inlX5 tyX5 tyX5_ok nmX5 G rfl rfl (by decide) rfl wm_44 rfl rfl rfl dX5_init_58 a39 (fun H locs G => ?_)
  refine lv_aload_n hx hb dX5_init_61 rfl (lv_at hl 0 rfl) ?_
  refine g_getA (k := 39) (ci := 5) (cs := [43, 45, 47, 49, 0]) hx hb hts hown 3 46 inlX5 G rfl rfl (by decide) rfl wm_43 dX5_init_62 a39 a46 ?_
  refine lv_iconst (v := iz (-1)) hx hb dX5_init_65 rfl ?_
  refine g_callVv (w := gw w g) (rest := []) hx hb hml hts hown hNw hA G [.int (iz (-1))] (cS_X4_fill WL71 l (gw w g) _ _ 46 6 ⟨rfl, rfl⟩ (by decide) (-1) trivial) (show WL71[46]? = some (1, 4, [50]) from rfl) rfl wm_51 wm_52 wm_53 wm_22 wm_54 hd_X4_fill ⟨rfl, rfl, (Nat.le_of_ble_eq_true rfl), (Nat.le_of_ble_eq_true rfl)⟩ rfl hl.1 (Nat.le_of_ble_eq_true rfl) (by show _ = [Value.int (iz (-1)), Value.ref (g 46)]; rw [a46]) dX5_init_66 ⟨(Nat.le_of_ble_eq_true rfl), (Nat.le_of_ble_eq_true rfl)⟩ (fun s1 H locs h G => ?_)
  rw [h] at G
  exact g_cret (n0 := 40) hx hb hr hlk rfl hz E G (Nat.le_of_ble_eq_true rfl) (Nat.le_of_ble_eq_true rfl) dX5_init_69
def WL72 : List Sh := [(1, 6, [4, 2, 2, 2, 2, 2, 0, 0]), (1, 5, [5, 7, 9, 11, 0]), (1, 4, [6]), (0, 100, []), (1, 4, [8]), (0, 6, []), (1, 4, [10]), (0, 48, []), (1, 4, [12]), (0, 6, []), (1, 1, [2, 0, 0]), (2, 4, [15, 24, 33, 42]), (1, 5, [16, 18, 20, 22, 0]), (1, 4, [17]), (0, 100, []), (1, 4, [19]), (0, 6, []), (1, 4, [21]), (0, 48, []), (1, 4, [23]), (0, 6, []), (1, 5, [25, 27, 29, 31, 0]), (1, 4, [26]), (0, 100, []), (1, 4, [28]), (0, 6, []), (1, 4, [30]), (0, 48, []), (1, 4, [32]), (0, 6, []), (1, 5, [34, 36, 38, 40, 0]), (1, 4, [35]), (0, 100, []), (1, 4, [37]), (0, 6, []), (1, 4, [39]), (0, 48, []), (1, 4, [41]), (0, 6, []), (1, 5, [43, 45, 47, 49, 0]), (1, 4, [44]), (0, 100, []), (1, 4, [46]), (0, 6, []), (1, 4, [48]), (0, 48, []), (1, 4, [50]), (0, 6, [])]
def WL73 : List Sh := [(1, 6, [4, 2, 2, 2, 2, 2, 0, 0]), (1, 5, [5, 7, 9, 11, 0]), (1, 4, [6]), (0, 100, []), (1, 4, [8]), (0, 6, []), (1, 4, [10]), (0, 48, []), (1, 4, [12]), (0, 6, []), (1, 1, [14, 0, 0]), (2, 4, [15, 24, 33, 42]), (1, 5, [16, 18, 20, 22, 0]), (1, 4, [17]), (0, 100, []), (1, 4, [19]), (0, 6, []), (1, 4, [21]), (0, 48, []), (1, 4, [23]), (0, 6, []), (1, 5, [25, 27, 29, 31, 0]), (1, 4, [26]), (0, 100, []), (1, 4, [28]), (0, 6, []), (1, 4, [30]), (0, 48, []), (1, 4, [32]), (0, 6, []), (1, 5, [34, 36, 38, 40, 0]), (1, 4, [35]), (0, 100, []), (1, 4, [37]), (0, 6, []), (1, 4, [39]), (0, 48, []), (1, 4, [41]), (0, 6, []), (1, 5, [43, 45, 47, 49, 0]), (1, 4, [44]), (0, 100, []), (1, 4, [46]), (0, 6, []), (1, 4, [48]), (0, 48, []), (1, 4, [50]), (0, 6, [])]
def sg_History_10 (σ : St) : St := (up (up (sg_State_39 (ur (sg_State_30 (ur (sg_State_21 (ur (sg_State_12 (ur (ur σ 11 (fun _ => 0)) 12 (fun _ => 0))) 21 (fun _ => 0))) 30 (fun _ => 0))) 39 (fun _ => 0))) 10 1 0) 10 2 0)
abbrev rc_History_10 : Room := ({ frames := 3, cells := 37, slots := 680, locals := 53 } : Room)
set_option maxHeartbeats 4000000 in
set_option maxRecDepth 100000 in
theorem cc_History_10 (l : Launch) (w : GW) (g0 : Nat → Nat) (σ : St) (sz : Nat) (x10 : Nat) (a10 : g0 10 = x10) : Met l yX1_init (Cond.code yX1_init cX1_init 1 none :: wsL_law) rc_History_10 (gPcC (gw w g0) WL15 σ sz [.ref x10]) (gQc w g0 WL15.length sz WL73 (sg_History_10 σ)) 37 680 (gA (gw w g0) WL15.length sz) := by
  refine g_metC (by decide) [.ref x10] (Nat.le_of_ble_eq_true rfl) ?_
  intro p e s m below meth c ls hz C0 hin hao hl G
  obtain ⟨hx, hb, hr, hml, hown, hts, hlk, hNw, hA⟩ := id C0
  have hown : s.vm.findClass RX1 = some m.cls := hown
  have hl : lv_has ls 1 [(0, .ref x10)] := hl
  have E : ∀ k, k < 11 → g0 k = g0 k := fun _ _ => rfl
  refine lv_aload_n hx hb dX1_init_0 rfl (lv_at hl 0 rfl) ?_
  refine g_objI hx hb hml hts hown wm_57 wm_10 wm_11 hl.1 (Nat.le_of_ble_eq_true rfl) (Nat.le_of_ble_eq_true rfl) dX1_init_1 ?_
  refine lv_aload_n hx hb dX1_init_4 rfl (lv_at hl 0 rfl) ?_
  refine lv_iconst (v := iz 4) hx hb dX1_init_5 rfl ?_
  refine g_newR (n := 11) hx hb hts hown hao G hA rfl (by decide +kernel) wm_58 4 rfl (by decide) (Nat.le_of_ble_eq_true rfl) (Nat.le_of_ble_eq_true rfl) dX1_init_6 [2, 2, 2, 2] gD4 (show _ = WL16 from rfl) (fun g x11 H a11 hg G => ?_)
  have a10 := (hg 10 (Nat.le_of_ble_eq_true rfl)).trans a10
  have E : ∀ k, k < 11 → g k = g0 k := fun k hk => (hg k (Nat.lt_of_lt_of_le hk (Nat.le_of_ble_eq_true rfl))).trans (E k hk)
  refine W.widen (k := 1) (n := 4) (Nat.le_of_ble_eq_true rfl) (Nat.le_of_ble_eq_true rfl) ?_
  refine lv_dup hx hb dX1_init_9 rfl ?_
  refine lv_iconst (v := iz 0) hx hb dX1_init_10 rfl ?_
  refine g_newO (n := 12) (ci := 5) (C := RX5) (T := TX5) (N := 5) hx hb hts hown [2, 2, 2, 2, 0] inlX5 tyX5 tyX5_ok G hA rfl (by decide +kernel) rfl (fun j hj => by rcases (show j = 0 ∨ j = 1 ∨ j = 2 ∨ j = 3 ∨ j = 4 by omega) with rfl | rfl | rfl | rfl | rfl <;> rfl) (by decide) wm_58 wm_13 wm_14 (Nat.le_of_ble_eq_true rfl) (Nat.le_of_ble_eq_true rfl) dX1_init_11 (show _ = WL17 from rfl) (fun g x12 H a12 hg G => ?_)
  have a10 := (hg 10 (Nat.le_of_ble_eq_true rfl)).trans a10
  have a11 := (hg 11 (Nat.le_of_ble_eq_true rfl)).trans a11
  have E : ∀ k, k < 11 → g k = g0 k := fun k hk => (hg k (Nat.lt_of_lt_of_le hk (Nat.le_of_ble_eq_true rfl))).trans (E k hk)
  refine W.widen (k := 2) (n := 9) (Nat.le_of_ble_eq_true rfl) (Nat.le_of_ble_eq_true rfl) ?_
  refine lv_dup hx hb dX1_init_14 rfl ?_
  refine g_callC (n := 0) (rest := [.ref x12, .int (iz 0), .ref x11, .ref x11, .ref x10]) (n0 := 13) hx hb hml hts hown hNw hao hA G [] (cc_State_12 l w _ _ _ x12 a12) rfl wm_62 wm_36 wm_14 wm_37 rfl ⟨by decide +kernel, by decide +kernel, by decide +kernel⟩ ⟨rfl, rfl, (Nat.le_of_ble_eq_true rfl), (Nat.le_of_ble_eq_true rfl)⟩ rfl hl.1 (Nat.le_of_ble_eq_true rfl) rfl dX1_init_15 ⟨(Nat.le_of_ble_eq_true rfl), (Nat.le_of_ble_eq_true rfl)⟩ (fun g H locs hg G => ?_)
  have a10 := (hg 10 (Nat.le_of_ble_eq_true rfl)).trans a10
  have a11 := (hg 11 (Nat.le_of_ble_eq_true rfl)).trans a11
  have a12 := (hg 12 (Nat.le_of_ble_eq_true rfl)).trans a12
  have E : ∀ k, k < 11 → g k = g0 k := fun k hk => (hg k (Nat.lt_of_lt_of_le hk (Nat.le_of_ble_eq_true rfl))).trans (E k hk)
  refine W.widen (k := 10) (n := 173) (Nat.le_of_ble_eq_true rfl) (Nat.le_of_ble_eq_true rfl) ?_
  refine g_astR (k := 11) (r := 12) (i := 0) (N := 4) (cs := [2, 2, 2, 2]) (vs := [16, 18, 20, 22, 0]) hx hb G rfl rfl rfl (by decide) (by decide) (by decide) dX1_init_18 a11 a12 (show _ = WL30 from rfl) (fun H locs G => ?_)
  refine lv_dup hx hb dX1_init_19 rfl ?_
  refine lv_iconst (v := iz 1) hx hb dX1_init_20 rfl ?_
  refine g_newO (n := 21) (ci := 5) (C := RX5) (T := TX5) (N := 5) hx hb hts hown [2, 2, 2, 2, 0] inlX5 tyX5 tyX5_ok G hA rfl (by decide +kernel) rfl (fun j hj => by rcases (show j = 0 ∨ j = 1 ∨ j = 2 ∨ j = 3 ∨ j = 4 by omega) with rfl | rfl | rfl | rfl | rfl <;> rfl) (by decide) wm_58 wm_13 wm_14 (Nat.le_of_ble_eq_true rfl) (Nat.le_of_ble_eq_true rfl) dX1_init_21 (show _ = WL31 from rfl) (fun g x21 H a21 hg G => ?_)
  have a10 := (hg 10 (Nat.le_of_ble_eq_true rfl)).trans a10
  have a11 := (hg 11 (Nat.le_of_ble_eq_true rfl)).trans a11
  have a12 := (hg 12 (Nat.le_of_ble_eq_true rfl)).trans a12
  have E : ∀ k, k < 11 → g k = g0 k := fun k hk => (hg k (Nat.lt_of_lt_of_le hk (Nat.le_of_ble_eq_true rfl))).trans (E k hk)
  refine W.widen (k := 11) (n := 178) (Nat.le_of_ble_eq_true rfl) (Nat.le_of_ble_eq_true rfl) ?_
  refine lv_dup hx hb dX1_init_24 rfl ?_
  refine g_callC (n := 0) (rest := [.ref x21, .int (iz 1), .ref x11, .ref x11, .ref x10]) (n0 := 22) hx hb hml hts hown hNw hao hA G [] (cc_State_21 l w _ _ _ x21 a21) rfl wm_62 wm_36 wm_14 wm_37 rfl ⟨by decide +kernel, by decide +kernel, by decide +kernel⟩ ⟨rfl, rfl, (Nat.le_of_ble_eq_true rfl), (Nat.le_of_ble_eq_true rfl)⟩ rfl hl.1 (Nat.le_of_ble_eq_true rfl) rfl dX1_init_25 ⟨(Nat.le_of_ble_eq_true rfl), (Nat.le_of_ble_eq_true rfl)⟩ (fun g H locs hg G => ?_)
  have a10 := (hg 10 (Nat.le_of_ble_eq_true rfl)).trans a10
  have a11 := (hg 11 (Nat.le_of_ble_eq_true rfl)).trans a11
  have a12 := (hg 12 (Nat.le_of_ble_eq_true rfl)).trans a12
  have a21 := (hg 21 (Nat.le_of_ble_eq_true rfl)).trans a21
  have E : ∀ k, k < 11 → g k = g0 k := fun k hk => (hg k (Nat.lt_of_lt_of_le hk (Nat.le_of_ble_eq_true rfl))).trans (E k hk)
  refine W.widen (k := 19) (n := 342) (Nat.le_of_ble_eq_true rfl) (Nat.le_of_ble_eq_true rfl) ?_
  refine g_astR (k := 11) (r := 21) (i := 1) (N := 4) (cs := [15, 2, 2, 2]) (vs := [25, 27, 29, 31, 0]) hx hb G rfl rfl rfl (by decide) (by decide) (by decide) dX1_init_28 a11 a21 (show _ = WL44 from rfl) (fun H locs G => ?_)
  refine lv_dup hx hb dX1_init_29 rfl ?_
  refine lv_iconst (v := iz 2) hx hb dX1_init_30 rfl ?_
  refine g_newO (n := 30) (ci := 5) (C := RX5) (T := TX5) (N := 5) hx hb hts hown [2, 2, 2, 2, 0] inlX5 tyX5 tyX5_ok G hA rfl (by decide +kernel) rfl (fun j hj => by rcases (show j = 0 ∨ j = 1 ∨ j = 2 ∨ j = 3 ∨ j = 4 by omega) with rfl | rfl | rfl | rfl | rfl <;> rfl) (by decide) wm_58 wm_13 wm_14 (Nat.le_of_ble_eq_true rfl) (Nat.le_of_ble_eq_true rfl) dX1_init_31 (show _ = WL45 from rfl) (fun g x30 H a30 hg G => ?_)
  have a10 := (hg 10 (Nat.le_of_ble_eq_true rfl)).trans a10
  have a11 := (hg 11 (Nat.le_of_ble_eq_true rfl)).trans a11
  have a12 := (hg 12 (Nat.le_of_ble_eq_true rfl)).trans a12
  have a21 := (hg 21 (Nat.le_of_ble_eq_true rfl)).trans a21
  have E : ∀ k, k < 11 → g k = g0 k := fun k hk => (hg k (Nat.lt_of_lt_of_le hk (Nat.le_of_ble_eq_true rfl))).trans (E k hk)
  refine W.widen (k := 20) (n := 347) (Nat.le_of_ble_eq_true rfl) (Nat.le_of_ble_eq_true rfl) ?_
  refine lv_dup hx hb dX1_init_34 rfl ?_
  refine g_callC (n := 0) (rest := [.ref x30, .int (iz 2), .ref x11, .ref x11, .ref x10]) (n0 := 31) hx hb hml hts hown hNw hao hA G [] (cc_State_30 l w _ _ _ x30 a30) rfl wm_62 wm_36 wm_14 wm_37 rfl ⟨by decide +kernel, by decide +kernel, by decide +kernel⟩ ⟨rfl, rfl, (Nat.le_of_ble_eq_true rfl), (Nat.le_of_ble_eq_true rfl)⟩ rfl hl.1 (Nat.le_of_ble_eq_true rfl) rfl dX1_init_35 ⟨(Nat.le_of_ble_eq_true rfl), (Nat.le_of_ble_eq_true rfl)⟩ (fun g H locs hg G => ?_)
  have a10 := (hg 10 (Nat.le_of_ble_eq_true rfl)).trans a10
  have a11 := (hg 11 (Nat.le_of_ble_eq_true rfl)).trans a11
  have a12 := (hg 12 (Nat.le_of_ble_eq_true rfl)).trans a12
  have a21 := (hg 21 (Nat.le_of_ble_eq_true rfl)).trans a21
  have a30 := (hg 30 (Nat.le_of_ble_eq_true rfl)).trans a30
  have E : ∀ k, k < 11 → g k = g0 k := fun k hk => (hg k (Nat.lt_of_lt_of_le hk (Nat.le_of_ble_eq_true rfl))).trans (E k hk)
  refine W.widen (k := 28) (n := 511) (Nat.le_of_ble_eq_true rfl) (Nat.le_of_ble_eq_true rfl) ?_
  refine g_astR (k := 11) (r := 30) (i := 2) (N := 4) (cs := [15, 24, 2, 2]) (vs := [34, 36, 38, 40, 0]) hx hb G rfl rfl rfl (by decide) (by decide) (by decide) dX1_init_38 a11 a30 (show _ = WL58 from rfl) (fun H locs G => ?_)
  refine lv_dup hx hb dX1_init_39 rfl ?_
  refine lv_iconst (v := iz 3) hx hb dX1_init_40 rfl ?_
  refine g_newO (n := 39) (ci := 5) (C := RX5) (T := TX5) (N := 5) hx hb hts hown [2, 2, 2, 2, 0] inlX5 tyX5 tyX5_ok G hA rfl (by decide +kernel) rfl (fun j hj => by rcases (show j = 0 ∨ j = 1 ∨ j = 2 ∨ j = 3 ∨ j = 4 by omega) with rfl | rfl | rfl | rfl | rfl <;> rfl) (by decide) wm_58 wm_13 wm_14 (Nat.le_of_ble_eq_true rfl) (Nat.le_of_ble_eq_true rfl) dX1_init_41 (show _ = WL59 from rfl) (fun g x39 H a39 hg G => ?_)
  have a10 := (hg 10 (Nat.le_of_ble_eq_true rfl)).trans a10
  have a11 := (hg 11 (Nat.le_of_ble_eq_true rfl)).trans a11
  have a12 := (hg 12 (Nat.le_of_ble_eq_true rfl)).trans a12
  have a21 := (hg 21 (Nat.le_of_ble_eq_true rfl)).trans a21
  have a30 := (hg 30 (Nat.le_of_ble_eq_true rfl)).trans a30
  have E : ∀ k, k < 11 → g k = g0 k := fun k hk => (hg k (Nat.lt_of_lt_of_le hk (Nat.le_of_ble_eq_true rfl))).trans (E k hk)
  refine W.widen (k := 29) (n := 516) (Nat.le_of_ble_eq_true rfl) (Nat.le_of_ble_eq_true rfl) ?_
  refine lv_dup hx hb dX1_init_44 rfl ?_
  refine g_callC (n := 0) (rest := [.ref x39, .int (iz 3), .ref x11, .ref x11, .ref x10]) (n0 := 40) hx hb hml hts hown hNw hao hA G [] (cc_State_39 l w _ _ _ x39 a39) rfl wm_62 wm_36 wm_14 wm_37 rfl ⟨by decide +kernel, by decide +kernel, by decide +kernel⟩ ⟨rfl, rfl, (Nat.le_of_ble_eq_true rfl), (Nat.le_of_ble_eq_true rfl)⟩ rfl hl.1 (Nat.le_of_ble_eq_true rfl) rfl dX1_init_45 ⟨(Nat.le_of_ble_eq_true rfl), (Nat.le_of_ble_eq_true rfl)⟩ (fun g H locs hg G => ?_)
  have a10 := (hg 10 (Nat.le_of_ble_eq_true rfl)).trans a10
  have a11 := (hg 11 (Nat.le_of_ble_eq_true rfl)).trans a11
  have a12 := (hg 12 (Nat.le_of_ble_eq_true rfl)).trans a12
  have a21 := (hg 21 (Nat.le_of_ble_eq_true rfl)).trans a21
  have a30 := (hg 30 (Nat.le_of_ble_eq_true rfl)).trans a30
  have a39 := (hg 39 (Nat.le_of_ble_eq_true rfl)).trans a39
  have E : ∀ k, k < 11 → g k = g0 k := fun k hk => (hg k (Nat.lt_of_lt_of_le hk (Nat.le_of_ble_eq_true rfl))).trans (E k hk)
  refine W.widen (k := 37) (n := 680) (Nat.le_of_ble_eq_true rfl) (Nat.le_of_ble_eq_true rfl) ?_
  refine g_astR (k := 11) (r := 39) (i := 3) (N := 4) (cs := [15, 24, 33, 2]) (vs := [43, 45, 47, 49, 0]) hx hb G rfl rfl rfl (by decide) (by decide) (by decide) dX1_init_48 a11 a39 (show _ = WL72 from rfl) (fun H locs G => ?_)
  refine g_putF (k := 10) (ci := 1) (cs := [2, 0, 0]) hx hb hts hown 0 11 inlX1 tyX1 tyX1_ok nmX1 G rfl rfl (by decide) (by decide) wm_59 rfl hin rfl rfl rfl dX1_init_49 a10 a11 (show _ = WL73 from rfl) (fun H locs G => ?_)
  refine lv_aload_n hx hb dX1_init_52 rfl (lv_at hl 0 rfl) ?_
  refine lv_iconst (v := iz 0) hx hb dX1_init_53 rfl ?_
  refine g_putA (k := 10) (ci := 1) (cs := [14, 0, 0]) hx hb hts hown 1 inlX1 tyX1 tyX1_ok nmX1 G rfl rfl (by decide) rfl wm_60 rfl rfl rfl dX1_init_54 a10 (fun H locs G => ?_)
  refine lv_aload_n hx hb dX1_init_57 rfl (lv_at hl 0 rfl) ?_
  refine lv_iconst (v := iz 0) hx hb dX1_init_58 rfl ?_
  refine g_putA (k := 10) (ci := 1) (cs := [14, 0, 0]) hx hb hts hown 2 inlX1 tyX1 tyX1_ok nmX1 G rfl rfl (by decide) rfl wm_61 rfl rfl rfl dX1_init_59 a10 (fun H locs G => ?_)
  exact g_cret (n0 := 11) hx hb hr hlk rfl hz E G (Nat.le_of_ble_eq_true rfl) (Nat.le_of_ble_eq_true rfl) dX1_init_62
def WL74 : List Sh := [(1, 6, [4, 13, 2, 2, 2, 2, 0, 0]), (1, 5, [5, 7, 9, 11, 0]), (1, 4, [6]), (0, 100, []), (1, 4, [8]), (0, 6, []), (1, 4, [10]), (0, 48, []), (1, 4, [12]), (0, 6, []), (1, 1, [14, 0, 0]), (2, 4, [15, 24, 33, 42]), (1, 5, [16, 18, 20, 22, 0]), (1, 4, [17]), (0, 100, []), (1, 4, [19]), (0, 6, []), (1, 4, [21]), (0, 48, []), (1, 4, [23]), (0, 6, []), (1, 5, [25, 27, 29, 31, 0]), (1, 4, [26]), (0, 100, []), (1, 4, [28]), (0, 6, []), (1, 4, [30]), (0, 48, []), (1, 4, [32]), (0, 6, []), (1, 5, [34, 36, 38, 40, 0]), (1, 4, [35]), (0, 100, []), (1, 4, [37]), (0, 6, []), (1, 4, [39]), (0, 48, []), (1, 4, [41]), (0, 6, []), (1, 5, [43, 45, 47, 49, 0]), (1, 4, [44]), (0, 100, []), (1, 4, [46]), (0, 6, []), (1, 4, [48]), (0, 48, []), (1, 4, [50]), (0, 6, [])]
def WL75 : List Sh := [(1, 6, [4, 13, 2, 2, 2, 2, 0, 0]), (1, 5, [5, 7, 9, 11, 0]), (1, 4, [6]), (0, 100, []), (1, 4, [8]), (0, 6, []), (1, 4, [10]), (0, 48, []), (1, 4, [12]), (0, 6, []), (1, 1, [14, 0, 0]), (2, 4, [15, 24, 33, 42]), (1, 5, [16, 18, 20, 22, 0]), (1, 4, [17]), (0, 100, []), (1, 4, [19]), (0, 6, []), (1, 4, [21]), (0, 48, []), (1, 4, [23]), (0, 6, []), (1, 5, [25, 27, 29, 31, 0]), (1, 4, [26]), (0, 100, []), (1, 4, [28]), (0, 6, []), (1, 4, [30]), (0, 48, []), (1, 4, [32]), (0, 6, []), (1, 5, [34, 36, 38, 40, 0]), (1, 4, [35]), (0, 100, []), (1, 4, [37]), (0, 6, []), (1, 4, [39]), (0, 48, []), (1, 4, [41]), (0, 6, []), (1, 5, [43, 45, 47, 49, 0]), (1, 4, [44]), (0, 100, []), (1, 4, [46]), (0, 6, []), (1, 4, [48]), (0, 48, []), (1, 4, [50]), (0, 6, []), (1, 4, [2])]
def WL76 : List Sh := [(1, 6, [4, 13, 2, 2, 2, 2, 0, 0]), (1, 5, [5, 7, 9, 11, 0]), (1, 4, [6]), (0, 100, []), (1, 4, [8]), (0, 6, []), (1, 4, [10]), (0, 48, []), (1, 4, [12]), (0, 6, []), (1, 1, [14, 0, 0]), (2, 4, [15, 24, 33, 42]), (1, 5, [16, 18, 20, 22, 0]), (1, 4, [17]), (0, 100, []), (1, 4, [19]), (0, 6, []), (1, 4, [21]), (0, 48, []), (1, 4, [23]), (0, 6, []), (1, 5, [25, 27, 29, 31, 0]), (1, 4, [26]), (0, 100, []), (1, 4, [28]), (0, 6, []), (1, 4, [30]), (0, 48, []), (1, 4, [32]), (0, 6, []), (1, 5, [34, 36, 38, 40, 0]), (1, 4, [35]), (0, 100, []), (1, 4, [37]), (0, 6, []), (1, 4, [39]), (0, 48, []), (1, 4, [41]), (0, 6, []), (1, 5, [43, 45, 47, 49, 0]), (1, 4, [44]), (0, 100, []), (1, 4, [46]), (0, 6, []), (1, 4, [48]), (0, 48, []), (1, 4, [50]), (0, 6, []), (1, 4, [52]), (0, 8, [])]
def WL77 : List Sh := [(1, 6, [4, 13, 51, 2, 2, 2, 0, 0]), (1, 5, [5, 7, 9, 11, 0]), (1, 4, [6]), (0, 100, []), (1, 4, [8]), (0, 6, []), (1, 4, [10]), (0, 48, []), (1, 4, [12]), (0, 6, []), (1, 1, [14, 0, 0]), (2, 4, [15, 24, 33, 42]), (1, 5, [16, 18, 20, 22, 0]), (1, 4, [17]), (0, 100, []), (1, 4, [19]), (0, 6, []), (1, 4, [21]), (0, 48, []), (1, 4, [23]), (0, 6, []), (1, 5, [25, 27, 29, 31, 0]), (1, 4, [26]), (0, 100, []), (1, 4, [28]), (0, 6, []), (1, 4, [30]), (0, 48, []), (1, 4, [32]), (0, 6, []), (1, 5, [34, 36, 38, 40, 0]), (1, 4, [35]), (0, 100, []), (1, 4, [37]), (0, 6, []), (1, 4, [39]), (0, 48, []), (1, 4, [41]), (0, 6, []), (1, 5, [43, 45, 47, 49, 0]), (1, 4, [44]), (0, 100, []), (1, 4, [46]), (0, 6, []), (1, 4, [48]), (0, 48, []), (1, 4, [50]), (0, 6, []), (1, 4, [52]), (0, 8, [])]
def WL78 : List Sh := [(1, 6, [4, 13, 51, 2, 2, 2, 0, 0]), (1, 5, [5, 7, 9, 11, 0]), (1, 4, [6]), (0, 100, []), (1, 4, [8]), (0, 6, []), (1, 4, [10]), (0, 48, []), (1, 4, [12]), (0, 6, []), (1, 1, [14, 0, 0]), (2, 4, [15, 24, 33, 42]), (1, 5, [16, 18, 20, 22, 0]), (1, 4, [17]), (0, 100, []), (1, 4, [19]), (0, 6, []), (1, 4, [21]), (0, 48, []), (1, 4, [23]), (0, 6, []), (1, 5, [25, 27, 29, 31, 0]), (1, 4, [26]), (0, 100, []), (1, 4, [28]), (0, 6, []), (1, 4, [30]), (0, 48, []), (1, 4, [32]), (0, 6, []), (1, 5, [34, 36, 38, 40, 0]), (1, 4, [35]), (0, 100, []), (1, 4, [37]), (0, 6, []), (1, 4, [39]), (0, 48, []), (1, 4, [41]), (0, 6, []), (1, 5, [43, 45, 47, 49, 0]), (1, 4, [44]), (0, 100, []), (1, 4, [46]), (0, 6, []), (1, 4, [48]), (0, 48, []), (1, 4, [50]), (0, 6, []), (1, 4, [52]), (0, 8, []), (1, 4, [2])]
def WL79 : List Sh := [(1, 6, [4, 13, 51, 2, 2, 2, 0, 0]), (1, 5, [5, 7, 9, 11, 0]), (1, 4, [6]), (0, 100, []), (1, 4, [8]), (0, 6, []), (1, 4, [10]), (0, 48, []), (1, 4, [12]), (0, 6, []), (1, 1, [14, 0, 0]), (2, 4, [15, 24, 33, 42]), (1, 5, [16, 18, 20, 22, 0]), (1, 4, [17]), (0, 100, []), (1, 4, [19]), (0, 6, []), (1, 4, [21]), (0, 48, []), (1, 4, [23]), (0, 6, []), (1, 5, [25, 27, 29, 31, 0]), (1, 4, [26]), (0, 100, []), (1, 4, [28]), (0, 6, []), (1, 4, [30]), (0, 48, []), (1, 4, [32]), (0, 6, []), (1, 5, [34, 36, 38, 40, 0]), (1, 4, [35]), (0, 100, []), (1, 4, [37]), (0, 6, []), (1, 4, [39]), (0, 48, []), (1, 4, [41]), (0, 6, []), (1, 5, [43, 45, 47, 49, 0]), (1, 4, [44]), (0, 100, []), (1, 4, [46]), (0, 6, []), (1, 4, [48]), (0, 48, []), (1, 4, [50]), (0, 6, []), (1, 4, [52]), (0, 8, []), (1, 4, [54]), (0, 3, [])]
def WL80 : List Sh := [(1, 6, [4, 13, 51, 53, 2, 2, 0, 0]), (1, 5, [5, 7, 9, 11, 0]), (1, 4, [6]), (0, 100, []), (1, 4, [8]), (0, 6, []), (1, 4, [10]), (0, 48, []), (1, 4, [12]), (0, 6, []), (1, 1, [14, 0, 0]), (2, 4, [15, 24, 33, 42]), (1, 5, [16, 18, 20, 22, 0]), (1, 4, [17]), (0, 100, []), (1, 4, [19]), (0, 6, []), (1, 4, [21]), (0, 48, []), (1, 4, [23]), (0, 6, []), (1, 5, [25, 27, 29, 31, 0]), (1, 4, [26]), (0, 100, []), (1, 4, [28]), (0, 6, []), (1, 4, [30]), (0, 48, []), (1, 4, [32]), (0, 6, []), (1, 5, [34, 36, 38, 40, 0]), (1, 4, [35]), (0, 100, []), (1, 4, [37]), (0, 6, []), (1, 4, [39]), (0, 48, []), (1, 4, [41]), (0, 6, []), (1, 5, [43, 45, 47, 49, 0]), (1, 4, [44]), (0, 100, []), (1, 4, [46]), (0, 6, []), (1, 4, [48]), (0, 48, []), (1, 4, [50]), (0, 6, []), (1, 4, [52]), (0, 8, []), (1, 4, [54]), (0, 3, [])]
def WL81 : List Sh := [(1, 6, [4, 13, 51, 53, 2, 2, 0, 0]), (1, 5, [5, 7, 9, 11, 0]), (1, 4, [6]), (0, 100, []), (1, 4, [8]), (0, 6, []), (1, 4, [10]), (0, 48, []), (1, 4, [12]), (0, 6, []), (1, 1, [14, 0, 0]), (2, 4, [15, 24, 33, 42]), (1, 5, [16, 18, 20, 22, 0]), (1, 4, [17]), (0, 100, []), (1, 4, [19]), (0, 6, []), (1, 4, [21]), (0, 48, []), (1, 4, [23]), (0, 6, []), (1, 5, [25, 27, 29, 31, 0]), (1, 4, [26]), (0, 100, []), (1, 4, [28]), (0, 6, []), (1, 4, [30]), (0, 48, []), (1, 4, [32]), (0, 6, []), (1, 5, [34, 36, 38, 40, 0]), (1, 4, [35]), (0, 100, []), (1, 4, [37]), (0, 6, []), (1, 4, [39]), (0, 48, []), (1, 4, [41]), (0, 6, []), (1, 5, [43, 45, 47, 49, 0]), (1, 4, [44]), (0, 100, []), (1, 4, [46]), (0, 6, []), (1, 4, [48]), (0, 48, []), (1, 4, [50]), (0, 6, []), (1, 4, [52]), (0, 8, []), (1, 4, [54]), (0, 3, []), (1, 2, [2, 2, 2, 2, 2])]
def WL82 : List Sh := [(1, 6, [4, 13, 51, 53, 2, 2, 0, 0]), (1, 5, [5, 7, 9, 11, 0]), (1, 4, [6]), (0, 100, []), (1, 4, [8]), (0, 6, []), (1, 4, [10]), (0, 48, []), (1, 4, [12]), (0, 6, []), (1, 1, [14, 0, 0]), (2, 4, [15, 24, 33, 42]), (1, 5, [16, 18, 20, 22, 0]), (1, 4, [17]), (0, 100, []), (1, 4, [19]), (0, 6, []), (1, 4, [21]), (0, 48, []), (1, 4, [23]), (0, 6, []), (1, 5, [25, 27, 29, 31, 0]), (1, 4, [26]), (0, 100, []), (1, 4, [28]), (0, 6, []), (1, 4, [30]), (0, 48, []), (1, 4, [32]), (0, 6, []), (1, 5, [34, 36, 38, 40, 0]), (1, 4, [35]), (0, 100, []), (1, 4, [37]), (0, 6, []), (1, 4, [39]), (0, 48, []), (1, 4, [41]), (0, 6, []), (1, 5, [43, 45, 47, 49, 0]), (1, 4, [44]), (0, 100, []), (1, 4, [46]), (0, 6, []), (1, 4, [48]), (0, 48, []), (1, 4, [50]), (0, 6, []), (1, 4, [52]), (0, 8, []), (1, 4, [54]), (0, 3, []), (1, 2, [2, 2, 2, 2, 2]), (1, 4, [2])]
def WL83 : List Sh := [(1, 6, [4, 13, 51, 53, 2, 2, 0, 0]), (1, 5, [5, 7, 9, 11, 0]), (1, 4, [6]), (0, 100, []), (1, 4, [8]), (0, 6, []), (1, 4, [10]), (0, 48, []), (1, 4, [12]), (0, 6, []), (1, 1, [14, 0, 0]), (2, 4, [15, 24, 33, 42]), (1, 5, [16, 18, 20, 22, 0]), (1, 4, [17]), (0, 100, []), (1, 4, [19]), (0, 6, []), (1, 4, [21]), (0, 48, []), (1, 4, [23]), (0, 6, []), (1, 5, [25, 27, 29, 31, 0]), (1, 4, [26]), (0, 100, []), (1, 4, [28]), (0, 6, []), (1, 4, [30]), (0, 48, []), (1, 4, [32]), (0, 6, []), (1, 5, [34, 36, 38, 40, 0]), (1, 4, [35]), (0, 100, []), (1, 4, [37]), (0, 6, []), (1, 4, [39]), (0, 48, []), (1, 4, [41]), (0, 6, []), (1, 5, [43, 45, 47, 49, 0]), (1, 4, [44]), (0, 100, []), (1, 4, [46]), (0, 6, []), (1, 4, [48]), (0, 48, []), (1, 4, [50]), (0, 6, []), (1, 4, [52]), (0, 8, []), (1, 4, [54]), (0, 3, []), (1, 2, [2, 2, 2, 2, 2]), (1, 4, [57]), (0, 101, [])]
def WL84 : List Sh := [(1, 6, [4, 13, 51, 53, 2, 2, 0, 0]), (1, 5, [5, 7, 9, 11, 0]), (1, 4, [6]), (0, 100, []), (1, 4, [8]), (0, 6, []), (1, 4, [10]), (0, 48, []), (1, 4, [12]), (0, 6, []), (1, 1, [14, 0, 0]), (2, 4, [15, 24, 33, 42]), (1, 5, [16, 18, 20, 22, 0]), (1, 4, [17]), (0, 100, []), (1, 4, [19]), (0, 6, []), (1, 4, [21]), (0, 48, []), (1, 4, [23]), (0, 6, []), (1, 5, [25, 27, 29, 31, 0]), (1, 4, [26]), (0, 100, []), (1, 4, [28]), (0, 6, []), (1, 4, [30]), (0, 48, []), (1, 4, [32]), (0, 6, []), (1, 5, [34, 36, 38, 40, 0]), (1, 4, [35]), (0, 100, []), (1, 4, [37]), (0, 6, []), (1, 4, [39]), (0, 48, []), (1, 4, [41]), (0, 6, []), (1, 5, [43, 45, 47, 49, 0]), (1, 4, [44]), (0, 100, []), (1, 4, [46]), (0, 6, []), (1, 4, [48]), (0, 48, []), (1, 4, [50]), (0, 6, []), (1, 4, [52]), (0, 8, []), (1, 4, [54]), (0, 3, []), (1, 2, [2, 56, 2, 2, 2]), (1, 4, [57]), (0, 101, [])]
def WL85 : List Sh := [(1, 6, [4, 13, 51, 53, 2, 2, 0, 0]), (1, 5, [5, 7, 9, 11, 0]), (1, 4, [6]), (0, 100, []), (1, 4, [8]), (0, 6, []), (1, 4, [10]), (0, 48, []), (1, 4, [12]), (0, 6, []), (1, 1, [14, 0, 0]), (2, 4, [15, 24, 33, 42]), (1, 5, [16, 18, 20, 22, 0]), (1, 4, [17]), (0, 100, []), (1, 4, [19]), (0, 6, []), (1, 4, [21]), (0, 48, []), (1, 4, [23]), (0, 6, []), (1, 5, [25, 27, 29, 31, 0]), (1, 4, [26]), (0, 100, []), (1, 4, [28]), (0, 6, []), (1, 4, [30]), (0, 48, []), (1, 4, [32]), (0, 6, []), (1, 5, [34, 36, 38, 40, 0]), (1, 4, [35]), (0, 100, []), (1, 4, [37]), (0, 6, []), (1, 4, [39]), (0, 48, []), (1, 4, [41]), (0, 6, []), (1, 5, [43, 45, 47, 49, 0]), (1, 4, [44]), (0, 100, []), (1, 4, [46]), (0, 6, []), (1, 4, [48]), (0, 48, []), (1, 4, [50]), (0, 6, []), (1, 4, [52]), (0, 8, []), (1, 4, [54]), (0, 3, []), (1, 2, [2, 56, 2, 2, 2]), (1, 4, [57]), (0, 101, []), (1, 4, [2])]
def WL86 : List Sh := [(1, 6, [4, 13, 51, 53, 2, 2, 0, 0]), (1, 5, [5, 7, 9, 11, 0]), (1, 4, [6]), (0, 100, []), (1, 4, [8]), (0, 6, []), (1, 4, [10]), (0, 48, []), (1, 4, [12]), (0, 6, []), (1, 1, [14, 0, 0]), (2, 4, [15, 24, 33, 42]), (1, 5, [16, 18, 20, 22, 0]), (1, 4, [17]), (0, 100, []), (1, 4, [19]), (0, 6, []), (1, 4, [21]), (0, 48, []), (1, 4, [23]), (0, 6, []), (1, 5, [25, 27, 29, 31, 0]), (1, 4, [26]), (0, 100, []), (1, 4, [28]), (0, 6, []), (1, 4, [30]), (0, 48, []), (1, 4, [32]), (0, 6, []), (1, 5, [34, 36, 38, 40, 0]), (1, 4, [35]), (0, 100, []), (1, 4, [37]), (0, 6, []), (1, 4, [39]), (0, 48, []), (1, 4, [41]), (0, 6, []), (1, 5, [43, 45, 47, 49, 0]), (1, 4, [44]), (0, 100, []), (1, 4, [46]), (0, 6, []), (1, 4, [48]), (0, 48, []), (1, 4, [50]), (0, 6, []), (1, 4, [52]), (0, 8, []), (1, 4, [54]), (0, 3, []), (1, 2, [2, 56, 2, 2, 2]), (1, 4, [57]), (0, 101, []), (1, 4, [59]), (0, 101, [])]
def WL87 : List Sh := [(1, 6, [4, 13, 51, 53, 2, 2, 0, 0]), (1, 5, [5, 7, 9, 11, 0]), (1, 4, [6]), (0, 100, []), (1, 4, [8]), (0, 6, []), (1, 4, [10]), (0, 48, []), (1, 4, [12]), (0, 6, []), (1, 1, [14, 0, 0]), (2, 4, [15, 24, 33, 42]), (1, 5, [16, 18, 20, 22, 0]), (1, 4, [17]), (0, 100, []), (1, 4, [19]), (0, 6, []), (1, 4, [21]), (0, 48, []), (1, 4, [23]), (0, 6, []), (1, 5, [25, 27, 29, 31, 0]), (1, 4, [26]), (0, 100, []), (1, 4, [28]), (0, 6, []), (1, 4, [30]), (0, 48, []), (1, 4, [32]), (0, 6, []), (1, 5, [34, 36, 38, 40, 0]), (1, 4, [35]), (0, 100, []), (1, 4, [37]), (0, 6, []), (1, 4, [39]), (0, 48, []), (1, 4, [41]), (0, 6, []), (1, 5, [43, 45, 47, 49, 0]), (1, 4, [44]), (0, 100, []), (1, 4, [46]), (0, 6, []), (1, 4, [48]), (0, 48, []), (1, 4, [50]), (0, 6, []), (1, 4, [52]), (0, 8, []), (1, 4, [54]), (0, 3, []), (1, 2, [2, 56, 58, 2, 2]), (1, 4, [57]), (0, 101, []), (1, 4, [59]), (0, 101, [])]
def WL88 : List Sh := [(1, 6, [4, 13, 51, 53, 2, 2, 0, 0]), (1, 5, [5, 7, 9, 11, 0]), (1, 4, [6]), (0, 100, []), (1, 4, [8]), (0, 6, []), (1, 4, [10]), (0, 48, []), (1, 4, [12]), (0, 6, []), (1, 1, [14, 0, 0]), (2, 4, [15, 24, 33, 42]), (1, 5, [16, 18, 20, 22, 0]), (1, 4, [17]), (0, 100, []), (1, 4, [19]), (0, 6, []), (1, 4, [21]), (0, 48, []), (1, 4, [23]), (0, 6, []), (1, 5, [25, 27, 29, 31, 0]), (1, 4, [26]), (0, 100, []), (1, 4, [28]), (0, 6, []), (1, 4, [30]), (0, 48, []), (1, 4, [32]), (0, 6, []), (1, 5, [34, 36, 38, 40, 0]), (1, 4, [35]), (0, 100, []), (1, 4, [37]), (0, 6, []), (1, 4, [39]), (0, 48, []), (1, 4, [41]), (0, 6, []), (1, 5, [43, 45, 47, 49, 0]), (1, 4, [44]), (0, 100, []), (1, 4, [46]), (0, 6, []), (1, 4, [48]), (0, 48, []), (1, 4, [50]), (0, 6, []), (1, 4, [52]), (0, 8, []), (1, 4, [54]), (0, 3, []), (1, 2, [2, 56, 58, 2, 2]), (1, 4, [57]), (0, 101, []), (1, 4, [59]), (0, 101, []), (1, 4, [2])]
def WL89 : List Sh := [(1, 6, [4, 13, 51, 53, 2, 2, 0, 0]), (1, 5, [5, 7, 9, 11, 0]), (1, 4, [6]), (0, 100, []), (1, 4, [8]), (0, 6, []), (1, 4, [10]), (0, 48, []), (1, 4, [12]), (0, 6, []), (1, 1, [14, 0, 0]), (2, 4, [15, 24, 33, 42]), (1, 5, [16, 18, 20, 22, 0]), (1, 4, [17]), (0, 100, []), (1, 4, [19]), (0, 6, []), (1, 4, [21]), (0, 48, []), (1, 4, [23]), (0, 6, []), (1, 5, [25, 27, 29, 31, 0]), (1, 4, [26]), (0, 100, []), (1, 4, [28]), (0, 6, []), (1, 4, [30]), (0, 48, []), (1, 4, [32]), (0, 6, []), (1, 5, [34, 36, 38, 40, 0]), (1, 4, [35]), (0, 100, []), (1, 4, [37]), (0, 6, []), (1, 4, [39]), (0, 48, []), (1, 4, [41]), (0, 6, []), (1, 5, [43, 45, 47, 49, 0]), (1, 4, [44]), (0, 100, []), (1, 4, [46]), (0, 6, []), (1, 4, [48]), (0, 48, []), (1, 4, [50]), (0, 6, []), (1, 4, [52]), (0, 8, []), (1, 4, [54]), (0, 3, []), (1, 2, [2, 56, 58, 2, 2]), (1, 4, [57]), (0, 101, []), (1, 4, [59]), (0, 101, []), (1, 4, [61]), (0, 101, [])]
def WL90 : List Sh := [(1, 6, [4, 13, 51, 53, 2, 2, 0, 0]), (1, 5, [5, 7, 9, 11, 0]), (1, 4, [6]), (0, 100, []), (1, 4, [8]), (0, 6, []), (1, 4, [10]), (0, 48, []), (1, 4, [12]), (0, 6, []), (1, 1, [14, 0, 0]), (2, 4, [15, 24, 33, 42]), (1, 5, [16, 18, 20, 22, 0]), (1, 4, [17]), (0, 100, []), (1, 4, [19]), (0, 6, []), (1, 4, [21]), (0, 48, []), (1, 4, [23]), (0, 6, []), (1, 5, [25, 27, 29, 31, 0]), (1, 4, [26]), (0, 100, []), (1, 4, [28]), (0, 6, []), (1, 4, [30]), (0, 48, []), (1, 4, [32]), (0, 6, []), (1, 5, [34, 36, 38, 40, 0]), (1, 4, [35]), (0, 100, []), (1, 4, [37]), (0, 6, []), (1, 4, [39]), (0, 48, []), (1, 4, [41]), (0, 6, []), (1, 5, [43, 45, 47, 49, 0]), (1, 4, [44]), (0, 100, []), (1, 4, [46]), (0, 6, []), (1, 4, [48]), (0, 48, []), (1, 4, [50]), (0, 6, []), (1, 4, [52]), (0, 8, []), (1, 4, [54]), (0, 3, []), (1, 2, [2, 56, 58, 60, 2]), (1, 4, [57]), (0, 101, []), (1, 4, [59]), (0, 101, []), (1, 4, [61]), (0, 101, [])]
def WL91 : List Sh := [(1, 6, [4, 13, 51, 53, 2, 2, 0, 0]), (1, 5, [5, 7, 9, 11, 0]), (1, 4, [6]), (0, 100, []), (1, 4, [8]), (0, 6, []), (1, 4, [10]), (0, 48, []), (1, 4, [12]), (0, 6, []), (1, 1, [14, 0, 0]), (2, 4, [15, 24, 33, 42]), (1, 5, [16, 18, 20, 22, 0]), (1, 4, [17]), (0, 100, []), (1, 4, [19]), (0, 6, []), (1, 4, [21]), (0, 48, []), (1, 4, [23]), (0, 6, []), (1, 5, [25, 27, 29, 31, 0]), (1, 4, [26]), (0, 100, []), (1, 4, [28]), (0, 6, []), (1, 4, [30]), (0, 48, []), (1, 4, [32]), (0, 6, []), (1, 5, [34, 36, 38, 40, 0]), (1, 4, [35]), (0, 100, []), (1, 4, [37]), (0, 6, []), (1, 4, [39]), (0, 48, []), (1, 4, [41]), (0, 6, []), (1, 5, [43, 45, 47, 49, 0]), (1, 4, [44]), (0, 100, []), (1, 4, [46]), (0, 6, []), (1, 4, [48]), (0, 48, []), (1, 4, [50]), (0, 6, []), (1, 4, [52]), (0, 8, []), (1, 4, [54]), (0, 3, []), (1, 2, [2, 56, 58, 60, 2]), (1, 4, [57]), (0, 101, []), (1, 4, [59]), (0, 101, []), (1, 4, [61]), (0, 101, []), (1, 0, [2])]
def WL92 : List Sh := [(1, 6, [4, 13, 51, 53, 2, 2, 0, 0]), (1, 5, [5, 7, 9, 11, 0]), (1, 4, [6]), (0, 100, []), (1, 4, [8]), (0, 6, []), (1, 4, [10]), (0, 48, []), (1, 4, [12]), (0, 6, []), (1, 1, [14, 0, 0]), (2, 4, [15, 24, 33, 42]), (1, 5, [16, 18, 20, 22, 0]), (1, 4, [17]), (0, 100, []), (1, 4, [19]), (0, 6, []), (1, 4, [21]), (0, 48, []), (1, 4, [23]), (0, 6, []), (1, 5, [25, 27, 29, 31, 0]), (1, 4, [26]), (0, 100, []), (1, 4, [28]), (0, 6, []), (1, 4, [30]), (0, 48, []), (1, 4, [32]), (0, 6, []), (1, 5, [34, 36, 38, 40, 0]), (1, 4, [35]), (0, 100, []), (1, 4, [37]), (0, 6, []), (1, 4, [39]), (0, 48, []), (1, 4, [41]), (0, 6, []), (1, 5, [43, 45, 47, 49, 0]), (1, 4, [44]), (0, 100, []), (1, 4, [46]), (0, 6, []), (1, 4, [48]), (0, 48, []), (1, 4, [50]), (0, 6, []), (1, 4, [52]), (0, 8, []), (1, 4, [54]), (0, 3, []), (1, 2, [2, 56, 58, 60, 2]), (1, 4, [57]), (0, 101, []), (1, 4, [59]), (0, 101, []), (1, 4, [61]), (0, 101, []), (1, 0, [2]), (0, 5454, [])]
def WL93 : List Sh := [(1, 6, [4, 13, 51, 53, 2, 2, 0, 0]), (1, 5, [5, 7, 9, 11, 0]), (1, 4, [6]), (0, 100, []), (1, 4, [8]), (0, 6, []), (1, 4, [10]), (0, 48, []), (1, 4, [12]), (0, 6, []), (1, 1, [14, 0, 0]), (2, 4, [15, 24, 33, 42]), (1, 5, [16, 18, 20, 22, 0]), (1, 4, [17]), (0, 100, []), (1, 4, [19]), (0, 6, []), (1, 4, [21]), (0, 48, []), (1, 4, [23]), (0, 6, []), (1, 5, [25, 27, 29, 31, 0]), (1, 4, [26]), (0, 100, []), (1, 4, [28]), (0, 6, []), (1, 4, [30]), (0, 48, []), (1, 4, [32]), (0, 6, []), (1, 5, [34, 36, 38, 40, 0]), (1, 4, [35]), (0, 100, []), (1, 4, [37]), (0, 6, []), (1, 4, [39]), (0, 48, []), (1, 4, [41]), (0, 6, []), (1, 5, [43, 45, 47, 49, 0]), (1, 4, [44]), (0, 100, []), (1, 4, [46]), (0, 6, []), (1, 4, [48]), (0, 48, []), (1, 4, [50]), (0, 6, []), (1, 4, [52]), (0, 8, []), (1, 4, [54]), (0, 3, []), (1, 2, [2, 56, 58, 60, 2]), (1, 4, [57]), (0, 101, []), (1, 4, [59]), (0, 101, []), (1, 4, [61]), (0, 101, []), (1, 0, [63]), (0, 5454, [])]
def sg_EndTable_59 (σ : St) : St := (ur σ 60 (fun _ => 0))
abbrev rc_EndTable_59 : Room := ({ frames := 1, cells := 1, slots := 5454, locals := 12 } : Room)
set_option maxHeartbeats 4000000 in
set_option maxRecDepth 100000 in
theorem cc_EndTable_59 (l : Launch) (w : GW) (g0 : Nat → Nat) (σ : St) (sz : Nat) (x59 : Nat) (a59 : g0 59 = x59) : Met l yX0_init (Cond.code yX0_init cX0_init 1 none :: wsL_law) rc_EndTable_59 (gPcC (gw w g0) WL91 σ sz [.ref x59]) (gQc w g0 WL91.length sz WL93 (sg_EndTable_59 σ)) 1 5454 (gA (gw w g0) WL91.length sz) := by
  refine g_metC (by decide) [.ref x59] (Nat.le_of_ble_eq_true rfl) ?_
  intro p e s m below meth c ls hz C0 hin hao hl G
  obtain ⟨hx, hb, hr, hml, hown, hts, hlk, hNw, hA⟩ := id C0
  have hown : s.vm.findClass RX0 = some m.cls := hown
  have hl : lv_has ls 1 [(0, .ref x59)] := hl
  have E : ∀ k, k < 60 → g0 k = g0 k := fun _ _ => rfl
  refine lv_aload_n hx hb dX0_init_0 rfl (lv_at hl 0 rfl) ?_
  refine g_objI hx hb hml hts hown wm_80 wm_10 wm_11 hl.1 (Nat.le_of_ble_eq_true rfl) (Nat.le_of_ble_eq_true rfl) dX0_init_1 ?_
  refine lv_aload_n hx hb dX0_init_4 rfl (lv_at hl 0 rfl) ?_
  refine lv_sipush (v := iz 5454) hx hb dX0_init_5 (by decide +kernel) ?_
  refine g_newI (n := 60) hx hb hts G hA rfl (by decide +kernel) wm_49 5454 rfl (by decide) (Nat.le_of_ble_eq_true rfl) (Nat.le_of_ble_eq_true rfl) dX0_init_8 (show _ = WL92 from rfl) (fun g x60 H a60 hg G => ?_)
  have a59 := (hg 59 (Nat.le_of_ble_eq_true rfl)).trans a59
  have E : ∀ k, k < 60 → g k = g0 k := fun k hk => (hg k (Nat.lt_of_lt_of_le hk (Nat.le_of_ble_eq_true rfl))).trans (E k hk)
  refine W.widen (k := 1) (n := 5454) (Nat.le_of_ble_eq_true rfl) (Nat.le_of_ble_eq_true rfl) ?_
  refine g_putF (k := 59) (ci := 0) (cs := [2]) hx hb hts hown 0 60 inlX0 tyX0 tyX0_ok nmX0 G rfl rfl (by decide) (by decide) wm_81 rfl hin rfl rfl rfl dX0_init_10 a59 a60 (show _ = WL93 from rfl) (fun H locs G => ?_)
  exact g_cret (n0 := 60) hx hb hr hlk rfl hz E G (Nat.le_of_ble_eq_true rfl) (Nat.le_of_ble_eq_true rfl) dX0_init_13
def WL94 : List Sh := [(1, 6, [4, 13, 51, 53, 2, 2, 0, 0]), (1, 5, [5, 7, 9, 11, 0]), (1, 4, [6]), (0, 100, []), (1, 4, [8]), (0, 6, []), (1, 4, [10]), (0, 48, []), (1, 4, [12]), (0, 6, []), (1, 1, [14, 0, 0]), (2, 4, [15, 24, 33, 42]), (1, 5, [16, 18, 20, 22, 0]), (1, 4, [17]), (0, 100, []), (1, 4, [19]), (0, 6, []), (1, 4, [21]), (0, 48, []), (1, 4, [23]), (0, 6, []), (1, 5, [25, 27, 29, 31, 0]), (1, 4, [26]), (0, 100, []), (1, 4, [28]), (0, 6, []), (1, 4, [30]), (0, 48, []), (1, 4, [32]), (0, 6, []), (1, 5, [34, 36, 38, 40, 0]), (1, 4, [35]), (0, 100, []), (1, 4, [37]), (0, 6, []), (1, 4, [39]), (0, 48, []), (1, 4, [41]), (0, 6, []), (1, 5, [43, 45, 47, 49, 0]), (1, 4, [44]), (0, 100, []), (1, 4, [46]), (0, 6, []), (1, 4, [48]), (0, 48, []), (1, 4, [50]), (0, 6, []), (1, 4, [52]), (0, 8, []), (1, 4, [54]), (0, 3, []), (1, 2, [2, 56, 58, 60, 62]), (1, 4, [57]), (0, 101, []), (1, 4, [59]), (0, 101, []), (1, 4, [61]), (0, 101, []), (1, 0, [63]), (0, 5454, [])]
def WL95 : List Sh := [(1, 6, [4, 13, 51, 53, 2, 2, 0, 0]), (1, 5, [5, 7, 9, 11, 0]), (1, 4, [6]), (0, 100, []), (1, 4, [8]), (0, 6, []), (1, 4, [10]), (0, 48, []), (1, 4, [12]), (0, 6, []), (1, 1, [14, 0, 0]), (2, 4, [15, 24, 33, 42]), (1, 5, [16, 18, 20, 22, 0]), (1, 4, [17]), (0, 100, []), (1, 4, [19]), (0, 6, []), (1, 4, [21]), (0, 48, []), (1, 4, [23]), (0, 6, []), (1, 5, [25, 27, 29, 31, 0]), (1, 4, [26]), (0, 100, []), (1, 4, [28]), (0, 6, []), (1, 4, [30]), (0, 48, []), (1, 4, [32]), (0, 6, []), (1, 5, [34, 36, 38, 40, 0]), (1, 4, [35]), (0, 100, []), (1, 4, [37]), (0, 6, []), (1, 4, [39]), (0, 48, []), (1, 4, [41]), (0, 6, []), (1, 5, [43, 45, 47, 49, 0]), (1, 4, [44]), (0, 100, []), (1, 4, [46]), (0, 6, []), (1, 4, [48]), (0, 48, []), (1, 4, [50]), (0, 6, []), (1, 4, [52]), (0, 8, []), (1, 4, [54]), (0, 3, []), (1, 2, [4, 56, 58, 60, 62]), (1, 4, [57]), (0, 101, []), (1, 4, [59]), (0, 101, []), (1, 4, [61]), (0, 101, []), (1, 0, [63]), (0, 5454, [])]
def sg_Matcher_52 (σ : St) : St := (sg_EndTable_59 (ur (ur (ur (ur (ur (ur (ur σ 53 (fun _ => 0)) 54 (fun _ => 0)) 55 (fun _ => 0)) 56 (fun _ => 0)) 57 (fun _ => 0)) 58 (fun _ => 0)) 59 (fun _ => 0)))
abbrev rc_Matcher_52 : Room := ({ frames := 2, cells := 8, slots := 5761, locals := 33 } : Room)
set_option maxHeartbeats 4000000 in
set_option maxRecDepth 100000 in
theorem cc_Matcher_52 (l : Launch) (w : GW) (g0 : Nat → Nat) (σ : St) (sz : Nat) (x52 : Nat) (a52 : g0 52 = x52) (x1 : Nat) (a1 : g0 1 = x1) : Met l yX2_init (Cond.code yX2_init cX2_init 2 none :: wsL_law) rc_Matcher_52 (gPcC (gw w g0) WL81 σ sz [.ref x52, .ref x1]) (gQc w g0 WL81.length sz WL95 (sg_Matcher_52 σ)) 8 5761 (gA (gw w g0) WL81.length sz) := by
  refine g_metC (by decide) [.ref x52, .ref x1] (Nat.le_of_ble_eq_true rfl) ?_
  intro p e s m below meth c ls hz C0 hin hao hl G
  obtain ⟨hx, hb, hr, hml, hown, hts, hlk, hNw, hA⟩ := id C0
  have hown : s.vm.findClass RX2 = some m.cls := hown
  have hl : lv_has ls 2 [(0, .ref x52), (1, .ref x1)] := hl
  have E : ∀ k, k < 53 → g0 k = g0 k := fun _ _ => rfl
  refine lv_aload_n hx hb dX2_init_0 rfl (lv_at hl 0 rfl) ?_
  refine g_objI hx hb hml hts hown wm_67 wm_10 wm_11 hl.1 (Nat.le_of_ble_eq_true rfl) (Nat.le_of_ble_eq_true rfl) dX2_init_1 ?_
  refine lv_aload_n hx hb dX2_init_4 rfl (lv_at hl 0 rfl) ?_
  refine g_newO (n := 53) (ci := 4) (C := RX4) (T := TX4) (N := 1) hx hb hts hown [2] inlX4 tyX4 tyX4_ok G hA rfl (by decide +kernel) rfl (fun j hj => by rcases (show j = 0 by omega) with rfl <;> rfl) (by decide) wm_68 wm_21 wm_22 (Nat.le_of_ble_eq_true rfl) (Nat.le_of_ble_eq_true rfl) dX2_init_5 (show _ = WL82 from rfl) (fun g x53 H a53 hg G => ?_)
  have a52 := (hg 52 (Nat.le_of_ble_eq_true rfl)).trans a52
  have a1 := (hg 1 (Nat.le_of_ble_eq_true rfl)).trans a1
  have E : ∀ k, k < 53 → g k = g0 k := fun k hk => (hg k (Nat.lt_of_lt_of_le hk (Nat.le_of_ble_eq_true rfl))).trans (E k hk)
  refine W.widen (k := 1) (n := 1) (Nat.le_of_ble_eq_true rfl) (Nat.le_of_ble_eq_true rfl) ?_
  refine lv_dup hx hb dX2_init_8 rfl ?_
  refine lv_bipush (v := iz 101) hx hb dX2_init_9 (by decide +kernel) ?_
  refine g_callC (n := 1) (rest := [.ref x53, .ref x52]) (n0 := 54) hx hb hml hts hown hNw hao hA G [.int (iz 101)] (c4_init l w _ _ _ 53 101 54 x53 a53 rfl (by decide +kernel) rfl (by decide) (i := 101) rfl (show _ = WL83 from rfl)) rfl wm_77 wm_46 wm_22 wm_47 rfl ⟨by decide +kernel, by decide +kernel, by decide +kernel⟩ ⟨rfl, rfl, (Nat.le_of_ble_eq_true rfl), (Nat.le_of_ble_eq_true rfl)⟩ rfl hl.1 (Nat.le_of_ble_eq_true rfl) rfl dX2_init_11 ⟨(Nat.le_of_ble_eq_true rfl), (Nat.le_of_ble_eq_true rfl)⟩ (fun g H locs hg G => ?_)
  have a52 := (hg 52 (Nat.le_of_ble_eq_true rfl)).trans a52
  have a1 := (hg 1 (Nat.le_of_ble_eq_true rfl)).trans a1
  have a53 := (hg 53 (Nat.le_of_ble_eq_true rfl)).trans a53
  have E : ∀ k, k < 53 → g k = g0 k := fun k hk => (hg k (Nat.lt_of_lt_of_le hk (Nat.le_of_ble_eq_true rfl))).trans (E k hk)
  refine W.widen (k := 2) (n := 102) (Nat.le_of_ble_eq_true rfl) (Nat.le_of_ble_eq_true rfl) ?_
  refine g_putF (k := 52) (ci := 2) (cs := [2, 2, 2, 2, 2]) hx hb hts hown 1 53 inlX2 tyX2 tyX2_ok nmX2 G rfl rfl (by decide) (by decide) wm_69 rfl hin rfl rfl rfl dX2_init_14 a52 a53 (show _ = WL84 from rfl) (fun H locs G => ?_)
  refine lv_aload_n hx hb dX2_init_17 rfl (lv_at hl 0 rfl) ?_
  refine g_newO (n := 55) (ci := 4) (C := RX4) (T := TX4) (N := 1) hx hb hts hown [2] inlX4 tyX4 tyX4_ok G hA rfl (by decide +kernel) rfl (fun j hj => by rcases (show j = 0 by omega) with rfl <;> rfl) (by decide) wm_68 wm_21 wm_22 (Nat.le_of_ble_eq_true rfl) (Nat.le_of_ble_eq_true rfl) dX2_init_18 (show _ = WL85 from rfl) (fun g x55 H a55 hg G => ?_)
  have a52 := (hg 52 (Nat.le_of_ble_eq_true rfl)).trans a52
  have a1 := (hg 1 (Nat.le_of_ble_eq_true rfl)).trans a1
  have a53 := (hg 53 (Nat.le_of_ble_eq_true rfl)).trans a53
  have E : ∀ k, k < 53 → g k = g0 k := fun k hk => (hg k (Nat.lt_of_lt_of_le hk (Nat.le_of_ble_eq_true rfl))).trans (E k hk)
  refine W.widen (k := 3) (n := 103) (Nat.le_of_ble_eq_true rfl) (Nat.le_of_ble_eq_true rfl) ?_
  refine lv_dup hx hb dX2_init_21 rfl ?_
  refine lv_bipush (v := iz 101) hx hb dX2_init_22 (by decide +kernel) ?_
  refine g_callC (n := 1) (rest := [.ref x55, .ref x52]) (n0 := 56) hx hb hml hts hown hNw hao hA G [.int (iz 101)] (c4_init l w _ _ _ 55 101 56 x55 a55 rfl (by decide +kernel) rfl (by decide) (i := 101) rfl (show _ = WL86 from rfl)) rfl wm_77 wm_46 wm_22 wm_47 rfl ⟨by decide +kernel, by decide +kernel, by decide +kernel⟩ ⟨rfl, rfl, (Nat.le_of_ble_eq_true rfl), (Nat.le_of_ble_eq_true rfl)⟩ rfl hl.1 (Nat.le_of_ble_eq_true rfl) rfl dX2_init_24 ⟨(Nat.le_of_ble_eq_true rfl), (Nat.le_of_ble_eq_true rfl)⟩ (fun g H locs hg G => ?_)
  have a52 := (hg 52 (Nat.le_of_ble_eq_true rfl)).trans a52
  have a1 := (hg 1 (Nat.le_of_ble_eq_true rfl)).trans a1
  have a53 := (hg 53 (Nat.le_of_ble_eq_true rfl)).trans a53
  have a55 := (hg 55 (Nat.le_of_ble_eq_true rfl)).trans a55
  have E : ∀ k, k < 53 → g k = g0 k := fun k hk => (hg k (Nat.lt_of_lt_of_le hk (Nat.le_of_ble_eq_true rfl))).trans (E k hk)
  refine W.widen (k := 4) (n := 204) (Nat.le_of_ble_eq_true rfl) (Nat.le_of_ble_eq_true rfl) ?_
  refine g_putF (k := 52) (ci := 2) (cs := [2, 56, 2, 2, 2]) hx hb hts hown 2 55 inlX2 tyX2 tyX2_ok nmX2 G rfl rfl (by decide) (by decide) wm_70 rfl hin rfl rfl rfl dX2_init_27 a52 a55 (show _ = WL87 from rfl) (fun H locs G => ?_)
  refine lv_aload_n hx hb dX2_init_30 rfl (lv_at hl 0 rfl) ?_
  refine g_newO (n := 57) (ci := 4) (C := RX4) (T := TX4) (N := 1) hx hb hts hown [2] inlX4 tyX4 tyX4_ok G hA rfl (by decide +kernel) rfl (fun j hj => by rcases (show j = 0 by omega) with rfl <;> rfl) (by decide) wm_68 wm_21 wm_22 (Nat.le_of_ble_eq_true rfl) (Nat.le_of_ble_eq_true rfl) dX2_init_31 (show _ = WL88 from rfl) (fun g x57 H a57 hg G => ?_)
  have a52 := (hg 52 (Nat.le_of_ble_eq_true rfl)).trans a52
  have a1 := (hg 1 (Nat.le_of_ble_eq_true rfl)).trans a1
  have a53 := (hg 53 (Nat.le_of_ble_eq_true rfl)).trans a53
  have a55 := (hg 55 (Nat.le_of_ble_eq_true rfl)).trans a55
  have E : ∀ k, k < 53 → g k = g0 k := fun k hk => (hg k (Nat.lt_of_lt_of_le hk (Nat.le_of_ble_eq_true rfl))).trans (E k hk)
  refine W.widen (k := 5) (n := 205) (Nat.le_of_ble_eq_true rfl) (Nat.le_of_ble_eq_true rfl) ?_
  refine lv_dup hx hb dX2_init_34 rfl ?_
  refine lv_bipush (v := iz 101) hx hb dX2_init_35 (by decide +kernel) ?_
  refine g_callC (n := 1) (rest := [.ref x57, .ref x52]) (n0 := 58) hx hb hml hts hown hNw hao hA G [.int (iz 101)] (c4_init l w _ _ _ 57 101 58 x57 a57 rfl (by decide +kernel) rfl (by decide) (i := 101) rfl (show _ = WL89 from rfl)) rfl wm_77 wm_46 wm_22 wm_47 rfl ⟨by decide +kernel, by decide +kernel, by decide +kernel⟩ ⟨rfl, rfl, (Nat.le_of_ble_eq_true rfl), (Nat.le_of_ble_eq_true rfl)⟩ rfl hl.1 (Nat.le_of_ble_eq_true rfl) rfl dX2_init_37 ⟨(Nat.le_of_ble_eq_true rfl), (Nat.le_of_ble_eq_true rfl)⟩ (fun g H locs hg G => ?_)
  have a52 := (hg 52 (Nat.le_of_ble_eq_true rfl)).trans a52
  have a1 := (hg 1 (Nat.le_of_ble_eq_true rfl)).trans a1
  have a53 := (hg 53 (Nat.le_of_ble_eq_true rfl)).trans a53
  have a55 := (hg 55 (Nat.le_of_ble_eq_true rfl)).trans a55
  have a57 := (hg 57 (Nat.le_of_ble_eq_true rfl)).trans a57
  have E : ∀ k, k < 53 → g k = g0 k := fun k hk => (hg k (Nat.lt_of_lt_of_le hk (Nat.le_of_ble_eq_true rfl))).trans (E k hk)
  refine W.widen (k := 6) (n := 306) (Nat.le_of_ble_eq_true rfl) (Nat.le_of_ble_eq_true rfl) ?_
  refine g_putF (k := 52) (ci := 2) (cs := [2, 56, 58, 2, 2]) hx hb hts hown 3 57 inlX2 tyX2 tyX2_ok nmX2 G rfl rfl (by decide) (by decide) wm_71 rfl hin rfl rfl rfl dX2_init_40 a52 a57 (show _ = WL90 from rfl) (fun H locs G => ?_)
  refine lv_aload_n hx hb dX2_init_43 rfl (lv_at hl 0 rfl) ?_
  refine g_newO (n := 59) (ci := 0) (C := RX0) (T := TX0) (N := 1) hx hb hts hown [2] inlX0 tyX0 tyX0_ok G hA rfl (by decide +kernel) rfl (fun j hj => by rcases (show j = 0 by omega) with rfl <;> rfl) (by decide) wm_72 wm_73 wm_74 (Nat.le_of_ble_eq_true rfl) (Nat.le_of_ble_eq_true rfl) dX2_init_44 (show _ = WL91 from rfl) (fun g x59 H a59 hg G => ?_)
  have a52 := (hg 52 (Nat.le_of_ble_eq_true rfl)).trans a52
  have a1 := (hg 1 (Nat.le_of_ble_eq_true rfl)).trans a1
  have a53 := (hg 53 (Nat.le_of_ble_eq_true rfl)).trans a53
  have a55 := (hg 55 (Nat.le_of_ble_eq_true rfl)).trans a55
  have a57 := (hg 57 (Nat.le_of_ble_eq_true rfl)).trans a57
  have E : ∀ k, k < 53 → g k = g0 k := fun k hk => (hg k (Nat.lt_of_lt_of_le hk (Nat.le_of_ble_eq_true rfl))).trans (E k hk)
  refine W.widen (k := 7) (n := 307) (Nat.le_of_ble_eq_true rfl) (Nat.le_of_ble_eq_true rfl) ?_
  refine lv_dup hx hb dX2_init_47 rfl ?_
  refine g_callCN (n := 0) (host := "IslandGrammar") (rest := [.ref x59, .ref x52]) (n0 := 60) hx hb hml hts hown hNw hao hA G [] (cc_EndTable_59 l w _ _ _ x59 a59) rfl (List.mem_of_getElem? (i := 1) rfl) wm_78 wm_74 wm_79 rfl ⟨by decide +kernel, by decide +kernel, by decide +kernel⟩ ⟨rfl, rfl, (Nat.le_of_ble_eq_true rfl), (Nat.le_of_ble_eq_true rfl)⟩ rfl hl.1 (Nat.le_of_ble_eq_true rfl) rfl dX2_init_48 ⟨(Nat.le_of_ble_eq_true rfl), (Nat.le_of_ble_eq_true rfl)⟩ (fun g H locs hg G => ?_)
  have a52 := (hg 52 (Nat.le_of_ble_eq_true rfl)).trans a52
  have a1 := (hg 1 (Nat.le_of_ble_eq_true rfl)).trans a1
  have a53 := (hg 53 (Nat.le_of_ble_eq_true rfl)).trans a53
  have a55 := (hg 55 (Nat.le_of_ble_eq_true rfl)).trans a55
  have a57 := (hg 57 (Nat.le_of_ble_eq_true rfl)).trans a57
  have a59 := (hg 59 (Nat.le_of_ble_eq_true rfl)).trans a59
  have E : ∀ k, k < 53 → g k = g0 k := fun k hk => (hg k (Nat.lt_of_lt_of_le hk (Nat.le_of_ble_eq_true rfl))).trans (E k hk)
  refine W.widen (k := 8) (n := 5761) (Nat.le_of_ble_eq_true rfl) (Nat.le_of_ble_eq_true rfl) ?_
  refine g_putF (k := 52) (ci := 2) (cs := [2, 56, 58, 60, 2]) hx hb hts hown 4 59 inlX2 tyX2 tyX2_ok nmX2 G rfl rfl (by decide) (by decide) wm_75 rfl hin rfl rfl rfl dX2_init_51 a52 a59 (show _ = WL94 from rfl) (fun H locs G => ?_)
  refine lv_aload_n hx hb dX2_init_54 rfl (lv_at hl 0 rfl) ?_
  refine lv_aload_n hx hb dX2_init_55 rfl (lv_at hl 1 rfl) ?_
  refine g_putF (k := 52) (ci := 2) (cs := [2, 56, 58, 60, 62]) hx hb hts hown 0 1 inlX2 tyX2 tyX2_ok nmX2 G rfl rfl (by decide) (by decide) wm_76 rfl hin rfl rfl rfl dX2_init_56 a52 a1 (show _ = WL95 from rfl) (fun H locs G => ?_)
  exact g_cret (n0 := 53) hx hb hr hlk rfl hz E G (Nat.le_of_ble_eq_true rfl) (Nat.le_of_ble_eq_true rfl) dX2_init_59
def WL96 : List Sh := [(1, 6, [4, 13, 51, 53, 55, 2, 0, 0]), (1, 5, [5, 7, 9, 11, 0]), (1, 4, [6]), (0, 100, []), (1, 4, [8]), (0, 6, []), (1, 4, [10]), (0, 48, []), (1, 4, [12]), (0, 6, []), (1, 1, [14, 0, 0]), (2, 4, [15, 24, 33, 42]), (1, 5, [16, 18, 20, 22, 0]), (1, 4, [17]), (0, 100, []), (1, 4, [19]), (0, 6, []), (1, 4, [21]), (0, 48, []), (1, 4, [23]), (0, 6, []), (1, 5, [25, 27, 29, 31, 0]), (1, 4, [26]), (0, 100, []), (1, 4, [28]), (0, 6, []), (1, 4, [30]), (0, 48, []), (1, 4, [32]), (0, 6, []), (1, 5, [34, 36, 38, 40, 0]), (1, 4, [35]), (0, 100, []), (1, 4, [37]), (0, 6, []), (1, 4, [39]), (0, 48, []), (1, 4, [41]), (0, 6, []), (1, 5, [43, 45, 47, 49, 0]), (1, 4, [44]), (0, 100, []), (1, 4, [46]), (0, 6, []), (1, 4, [48]), (0, 48, []), (1, 4, [50]), (0, 6, []), (1, 4, [52]), (0, 8, []), (1, 4, [54]), (0, 3, []), (1, 2, [4, 56, 58, 60, 62]), (1, 4, [57]), (0, 101, []), (1, 4, [59]), (0, 101, []), (1, 4, [61]), (0, 101, []), (1, 0, [63]), (0, 5454, [])]
def WL97 : List Sh := [(1, 6, [4, 13, 51, 53, 55, 2, 0, 0]), (1, 5, [5, 7, 9, 11, 0]), (1, 4, [6]), (0, 100, []), (1, 4, [8]), (0, 6, []), (1, 4, [10]), (0, 48, []), (1, 4, [12]), (0, 6, []), (1, 1, [14, 0, 0]), (2, 4, [15, 24, 33, 42]), (1, 5, [16, 18, 20, 22, 0]), (1, 4, [17]), (0, 100, []), (1, 4, [19]), (0, 6, []), (1, 4, [21]), (0, 48, []), (1, 4, [23]), (0, 6, []), (1, 5, [25, 27, 29, 31, 0]), (1, 4, [26]), (0, 100, []), (1, 4, [28]), (0, 6, []), (1, 4, [30]), (0, 48, []), (1, 4, [32]), (0, 6, []), (1, 5, [34, 36, 38, 40, 0]), (1, 4, [35]), (0, 100, []), (1, 4, [37]), (0, 6, []), (1, 4, [39]), (0, 48, []), (1, 4, [41]), (0, 6, []), (1, 5, [43, 45, 47, 49, 0]), (1, 4, [44]), (0, 100, []), (1, 4, [46]), (0, 6, []), (1, 4, [48]), (0, 48, []), (1, 4, [50]), (0, 6, []), (1, 4, [52]), (0, 8, []), (1, 4, [54]), (0, 3, []), (1, 2, [4, 56, 58, 60, 62]), (1, 4, [57]), (0, 101, []), (1, 4, [59]), (0, 101, []), (1, 4, [61]), (0, 101, []), (1, 0, [63]), (0, 5454, []), (1, 3, [2, 2, 2, 2, 2, 2, 2, 2, 2, 2, 2, 0, 0, 0, 0, 0])]
def WL98 : List Sh := [(1, 6, [4, 13, 51, 53, 55, 2, 0, 0]), (1, 5, [5, 7, 9, 11, 0]), (1, 4, [6]), (0, 100, []), (1, 4, [8]), (0, 6, []), (1, 4, [10]), (0, 48, []), (1, 4, [12]), (0, 6, []), (1, 1, [14, 0, 0]), (2, 4, [15, 24, 33, 42]), (1, 5, [16, 18, 20, 22, 0]), (1, 4, [17]), (0, 100, []), (1, 4, [19]), (0, 6, []), (1, 4, [21]), (0, 48, []), (1, 4, [23]), (0, 6, []), (1, 5, [25, 27, 29, 31, 0]), (1, 4, [26]), (0, 100, []), (1, 4, [28]), (0, 6, []), (1, 4, [30]), (0, 48, []), (1, 4, [32]), (0, 6, []), (1, 5, [34, 36, 38, 40, 0]), (1, 4, [35]), (0, 100, []), (1, 4, [37]), (0, 6, []), (1, 4, [39]), (0, 48, []), (1, 4, [41]), (0, 6, []), (1, 5, [43, 45, 47, 49, 0]), (1, 4, [44]), (0, 100, []), (1, 4, [46]), (0, 6, []), (1, 4, [48]), (0, 48, []), (1, 4, [50]), (0, 6, []), (1, 4, [52]), (0, 8, []), (1, 4, [54]), (0, 3, []), (1, 2, [4, 56, 58, 60, 62]), (1, 4, [57]), (0, 101, []), (1, 4, [59]), (0, 101, []), (1, 4, [61]), (0, 101, []), (1, 0, [63]), (0, 5454, []), (1, 3, [2, 2, 2, 2, 2, 2, 2, 2, 2, 2, 2, 0, 0, 0, 0, 0]), (1, 4, [2])]
def WL99 : List Sh := [(1, 6, [4, 13, 51, 53, 55, 2, 0, 0]), (1, 5, [5, 7, 9, 11, 0]), (1, 4, [6]), (0, 100, []), (1, 4, [8]), (0, 6, []), (1, 4, [10]), (0, 48, []), (1, 4, [12]), (0, 6, []), (1, 1, [14, 0, 0]), (2, 4, [15, 24, 33, 42]), (1, 5, [16, 18, 20, 22, 0]), (1, 4, [17]), (0, 100, []), (1, 4, [19]), (0, 6, []), (1, 4, [21]), (0, 48, []), (1, 4, [23]), (0, 6, []), (1, 5, [25, 27, 29, 31, 0]), (1, 4, [26]), (0, 100, []), (1, 4, [28]), (0, 6, []), (1, 4, [30]), (0, 48, []), (1, 4, [32]), (0, 6, []), (1, 5, [34, 36, 38, 40, 0]), (1, 4, [35]), (0, 100, []), (1, 4, [37]), (0, 6, []), (1, 4, [39]), (0, 48, []), (1, 4, [41]), (0, 6, []), (1, 5, [43, 45, 47, 49, 0]), (1, 4, [44]), (0, 100, []), (1, 4, [46]), (0, 6, []), (1, 4, [48]), (0, 48, []), (1, 4, [50]), (0, 6, []), (1, 4, [52]), (0, 8, []), (1, 4, [54]), (0, 3, []), (1, 2, [4, 56, 58, 60, 62]), (1, 4, [57]), (0, 101, []), (1, 4, [59]), (0, 101, []), (1, 4, [61]), (0, 101, []), (1, 0, [63]), (0, 5454, []), (1, 3, [2, 2, 2, 2, 2, 2, 2, 2, 2, 2, 2, 0, 0, 0, 0, 0]), (1, 4, [66]), (0, 100, [])]
def WL100 : List Sh := [(1, 6, [4, 13, 51, 53, 55, 2, 0, 0]), (1, 5, [5, 7, 9, 11, 0]), (1, 4, [6]), (0, 100, []), (1, 4, [8]), (0, 6, []), (1, 4, [10]), (0, 48, []), (1, 4, [12]), (0, 6, []), (1, 1, [14, 0, 0]), (2, 4, [15, 24, 33, 42]), (1, 5, [16, 18, 20, 22, 0]), (1, 4, [17]), (0, 100, []), (1, 4, [19]), (0, 6, []), (1, 4, [21]), (0, 48, []), (1, 4, [23]), (0, 6, []), (1, 5, [25, 27, 29, 31, 0]), (1, 4, [26]), (0, 100, []), (1, 4, [28]), (0, 6, []), (1, 4, [30]), (0, 48, []), (1, 4, [32]), (0, 6, []), (1, 5, [34, 36, 38, 40, 0]), (1, 4, [35]), (0, 100, []), (1, 4, [37]), (0, 6, []), (1, 4, [39]), (0, 48, []), (1, 4, [41]), (0, 6, []), (1, 5, [43, 45, 47, 49, 0]), (1, 4, [44]), (0, 100, []), (1, 4, [46]), (0, 6, []), (1, 4, [48]), (0, 48, []), (1, 4, [50]), (0, 6, []), (1, 4, [52]), (0, 8, []), (1, 4, [54]), (0, 3, []), (1, 2, [4, 56, 58, 60, 62]), (1, 4, [57]), (0, 101, []), (1, 4, [59]), (0, 101, []), (1, 4, [61]), (0, 101, []), (1, 0, [63]), (0, 5454, []), (1, 3, [2, 2, 65, 2, 2, 2, 2, 2, 2, 2, 2, 0, 0, 0, 0, 0]), (1, 4, [66]), (0, 100, [])]
def WL101 : List Sh := [(1, 6, [4, 13, 51, 53, 55, 2, 0, 0]), (1, 5, [5, 7, 9, 11, 0]), (1, 4, [6]), (0, 100, []), (1, 4, [8]), (0, 6, []), (1, 4, [10]), (0, 48, []), (1, 4, [12]), (0, 6, []), (1, 1, [14, 0, 0]), (2, 4, [15, 24, 33, 42]), (1, 5, [16, 18, 20, 22, 0]), (1, 4, [17]), (0, 100, []), (1, 4, [19]), (0, 6, []), (1, 4, [21]), (0, 48, []), (1, 4, [23]), (0, 6, []), (1, 5, [25, 27, 29, 31, 0]), (1, 4, [26]), (0, 100, []), (1, 4, [28]), (0, 6, []), (1, 4, [30]), (0, 48, []), (1, 4, [32]), (0, 6, []), (1, 5, [34, 36, 38, 40, 0]), (1, 4, [35]), (0, 100, []), (1, 4, [37]), (0, 6, []), (1, 4, [39]), (0, 48, []), (1, 4, [41]), (0, 6, []), (1, 5, [43, 45, 47, 49, 0]), (1, 4, [44]), (0, 100, []), (1, 4, [46]), (0, 6, []), (1, 4, [48]), (0, 48, []), (1, 4, [50]), (0, 6, []), (1, 4, [52]), (0, 8, []), (1, 4, [54]), (0, 3, []), (1, 2, [4, 56, 58, 60, 62]), (1, 4, [57]), (0, 101, []), (1, 4, [59]), (0, 101, []), (1, 4, [61]), (0, 101, []), (1, 0, [63]), (0, 5454, []), (1, 3, [2, 2, 65, 2, 2, 2, 2, 2, 2, 2, 2, 0, 0, 0, 0, 0]), (1, 4, [66]), (0, 100, []), (1, 4, [2])]
def WL102 : List Sh := [(1, 6, [4, 13, 51, 53, 55, 2, 0, 0]), (1, 5, [5, 7, 9, 11, 0]), (1, 4, [6]), (0, 100, []), (1, 4, [8]), (0, 6, []), (1, 4, [10]), (0, 48, []), (1, 4, [12]), (0, 6, []), (1, 1, [14, 0, 0]), (2, 4, [15, 24, 33, 42]), (1, 5, [16, 18, 20, 22, 0]), (1, 4, [17]), (0, 100, []), (1, 4, [19]), (0, 6, []), (1, 4, [21]), (0, 48, []), (1, 4, [23]), (0, 6, []), (1, 5, [25, 27, 29, 31, 0]), (1, 4, [26]), (0, 100, []), (1, 4, [28]), (0, 6, []), (1, 4, [30]), (0, 48, []), (1, 4, [32]), (0, 6, []), (1, 5, [34, 36, 38, 40, 0]), (1, 4, [35]), (0, 100, []), (1, 4, [37]), (0, 6, []), (1, 4, [39]), (0, 48, []), (1, 4, [41]), (0, 6, []), (1, 5, [43, 45, 47, 49, 0]), (1, 4, [44]), (0, 100, []), (1, 4, [46]), (0, 6, []), (1, 4, [48]), (0, 48, []), (1, 4, [50]), (0, 6, []), (1, 4, [52]), (0, 8, []), (1, 4, [54]), (0, 3, []), (1, 2, [4, 56, 58, 60, 62]), (1, 4, [57]), (0, 101, []), (1, 4, [59]), (0, 101, []), (1, 4, [61]), (0, 101, []), (1, 0, [63]), (0, 5454, []), (1, 3, [2, 2, 65, 2, 2, 2, 2, 2, 2, 2, 2, 0, 0, 0, 0, 0]), (1, 4, [66]), (0, 100, []), (1, 4, [68]), (0, 100, [])]
def WL103 : List Sh := [(1, 6, [4, 13, 51, 53, 55, 2, 0, 0]), (1, 5, [5, 7, 9, 11, 0]), (1, 4, [6]), (0, 100, []), (1, 4, [8]), (0, 6, []), (1, 4, [10]), (0, 48, []), (1, 4, [12]), (0, 6, []), (1, 1, [14, 0, 0]), (2, 4, [15, 24, 33, 42]), (1, 5, [16, 18, 20, 22, 0]), (1, 4, [17]), (0, 100, []), (1, 4, [19]), (0, 6, []), (1, 4, [21]), (0, 48, []), (1, 4, [23]), (0, 6, []), (1, 5, [25, 27, 29, 31, 0]), (1, 4, [26]), (0, 100, []), (1, 4, [28]), (0, 6, []), (1, 4, [30]), (0, 48, []), (1, 4, [32]), (0, 6, []), (1, 5, [34, 36, 38, 40, 0]), (1, 4, [35]), (0, 100, []), (1, 4, [37]), (0, 6, []), (1, 4, [39]), (0, 48, []), (1, 4, [41]), (0, 6, []), (1, 5, [43, 45, 47, 49, 0]), (1, 4, [44]), (0, 100, []), (1, 4, [46]), (0, 6, []), (1, 4, [48]), (0, 48, []), (1, 4, [50]), (0, 6, []), (1, 4, [52]), (0, 8, []), (1, 4, [54]), (0, 3, []), (1, 2, [4, 56, 58, 60, 62]), (1, 4, [57]), (0, 101, []), (1, 4, [59]), (0, 101, []), (1, 4, [61]), (0, 101, []), (1, 0, [63]), (0, 5454, []), (1, 3, [2, 2, 65, 67, 2, 2, 2, 2, 2, 2, 2, 0, 0, 0, 0, 0]), (1, 4, [66]), (0, 100, []), (1, 4, [68]), (0, 100, [])]
def WL104 : List Sh := [(1, 6, [4, 13, 51, 53, 55, 2, 0, 0]), (1, 5, [5, 7, 9, 11, 0]), (1, 4, [6]), (0, 100, []), (1, 4, [8]), (0, 6, []), (1, 4, [10]), (0, 48, []), (1, 4, [12]), (0, 6, []), (1, 1, [14, 0, 0]), (2, 4, [15, 24, 33, 42]), (1, 5, [16, 18, 20, 22, 0]), (1, 4, [17]), (0, 100, []), (1, 4, [19]), (0, 6, []), (1, 4, [21]), (0, 48, []), (1, 4, [23]), (0, 6, []), (1, 5, [25, 27, 29, 31, 0]), (1, 4, [26]), (0, 100, []), (1, 4, [28]), (0, 6, []), (1, 4, [30]), (0, 48, []), (1, 4, [32]), (0, 6, []), (1, 5, [34, 36, 38, 40, 0]), (1, 4, [35]), (0, 100, []), (1, 4, [37]), (0, 6, []), (1, 4, [39]), (0, 48, []), (1, 4, [41]), (0, 6, []), (1, 5, [43, 45, 47, 49, 0]), (1, 4, [44]), (0, 100, []), (1, 4, [46]), (0, 6, []), (1, 4, [48]), (0, 48, []), (1, 4, [50]), (0, 6, []), (1, 4, [52]), (0, 8, []), (1, 4, [54]), (0, 3, []), (1, 2, [4, 56, 58, 60, 62]), (1, 4, [57]), (0, 101, []), (1, 4, [59]), (0, 101, []), (1, 4, [61]), (0, 101, []), (1, 0, [63]), (0, 5454, []), (1, 3, [2, 2, 65, 67, 2, 2, 2, 2, 2, 2, 2, 0, 0, 0, 0, 0]), (1, 4, [66]), (0, 100, []), (1, 4, [68]), (0, 100, []), (1, 4, [2])]
def WL105 : List Sh := [(1, 6, [4, 13, 51, 53, 55, 2, 0, 0]), (1, 5, [5, 7, 9, 11, 0]), (1, 4, [6]), (0, 100, []), (1, 4, [8]), (0, 6, []), (1, 4, [10]), (0, 48, []), (1, 4, [12]), (0, 6, []), (1, 1, [14, 0, 0]), (2, 4, [15, 24, 33, 42]), (1, 5, [16, 18, 20, 22, 0]), (1, 4, [17]), (0, 100, []), (1, 4, [19]), (0, 6, []), (1, 4, [21]), (0, 48, []), (1, 4, [23]), (0, 6, []), (1, 5, [25, 27, 29, 31, 0]), (1, 4, [26]), (0, 100, []), (1, 4, [28]), (0, 6, []), (1, 4, [30]), (0, 48, []), (1, 4, [32]), (0, 6, []), (1, 5, [34, 36, 38, 40, 0]), (1, 4, [35]), (0, 100, []), (1, 4, [37]), (0, 6, []), (1, 4, [39]), (0, 48, []), (1, 4, [41]), (0, 6, []), (1, 5, [43, 45, 47, 49, 0]), (1, 4, [44]), (0, 100, []), (1, 4, [46]), (0, 6, []), (1, 4, [48]), (0, 48, []), (1, 4, [50]), (0, 6, []), (1, 4, [52]), (0, 8, []), (1, 4, [54]), (0, 3, []), (1, 2, [4, 56, 58, 60, 62]), (1, 4, [57]), (0, 101, []), (1, 4, [59]), (0, 101, []), (1, 4, [61]), (0, 101, []), (1, 0, [63]), (0, 5454, []), (1, 3, [2, 2, 65, 67, 2, 2, 2, 2, 2, 2, 2, 0, 0, 0, 0, 0]), (1, 4, [66]), (0, 100, []), (1, 4, [68]), (0, 100, []), (1, 4, [70]), (0, 100, [])]
def WL106 : List Sh := [(1, 6, [4, 13, 51, 53, 55, 2, 0, 0]), (1, 5, [5, 7, 9, 11, 0]), (1, 4, [6]), (0, 100, []), (1, 4, [8]), (0, 6, []), (1, 4, [10]), (0, 48, []), (1, 4, [12]), (0, 6, []), (1, 1, [14, 0, 0]), (2, 4, [15, 24, 33, 42]), (1, 5, [16, 18, 20, 22, 0]), (1, 4, [17]), (0, 100, []), (1, 4, [19]), (0, 6, []), (1, 4, [21]), (0, 48, []), (1, 4, [23]), (0, 6, []), (1, 5, [25, 27, 29, 31, 0]), (1, 4, [26]), (0, 100, []), (1, 4, [28]), (0, 6, []), (1, 4, [30]), (0, 48, []), (1, 4, [32]), (0, 6, []), (1, 5, [34, 36, 38, 40, 0]), (1, 4, [35]), (0, 100, []), (1, 4, [37]), (0, 6, []), (1, 4, [39]), (0, 48, []), (1, 4, [41]), (0, 6, []), (1, 5, [43, 45, 47, 49, 0]), (1, 4, [44]), (0, 100, []), (1, 4, [46]), (0, 6, []), (1, 4, [48]), (0, 48, []), (1, 4, [50]), (0, 6, []), (1, 4, [52]), (0, 8, []), (1, 4, [54]), (0, 3, []), (1, 2, [4, 56, 58, 60, 62]), (1, 4, [57]), (0, 101, []), (1, 4, [59]), (0, 101, []), (1, 4, [61]), (0, 101, []), (1, 0, [63]), (0, 5454, []), (1, 3, [2, 2, 65, 67, 69, 2, 2, 2, 2, 2, 2, 0, 0, 0, 0, 0]), (1, 4, [66]), (0, 100, []), (1, 4, [68]), (0, 100, []), (1, 4, [70]), (0, 100, [])]
def WL107 : List Sh := [(1, 6, [4, 13, 51, 53, 55, 2, 0, 0]), (1, 5, [5, 7, 9, 11, 0]), (1, 4, [6]), (0, 100, []), (1, 4, [8]), (0, 6, []), (1, 4, [10]), (0, 48, []), (1, 4, [12]), (0, 6, []), (1, 1, [14, 0, 0]), (2, 4, [15, 24, 33, 42]), (1, 5, [16, 18, 20, 22, 0]), (1, 4, [17]), (0, 100, []), (1, 4, [19]), (0, 6, []), (1, 4, [21]), (0, 48, []), (1, 4, [23]), (0, 6, []), (1, 5, [25, 27, 29, 31, 0]), (1, 4, [26]), (0, 100, []), (1, 4, [28]), (0, 6, []), (1, 4, [30]), (0, 48, []), (1, 4, [32]), (0, 6, []), (1, 5, [34, 36, 38, 40, 0]), (1, 4, [35]), (0, 100, []), (1, 4, [37]), (0, 6, []), (1, 4, [39]), (0, 48, []), (1, 4, [41]), (0, 6, []), (1, 5, [43, 45, 47, 49, 0]), (1, 4, [44]), (0, 100, []), (1, 4, [46]), (0, 6, []), (1, 4, [48]), (0, 48, []), (1, 4, [50]), (0, 6, []), (1, 4, [52]), (0, 8, []), (1, 4, [54]), (0, 3, []), (1, 2, [4, 56, 58, 60, 62]), (1, 4, [57]), (0, 101, []), (1, 4, [59]), (0, 101, []), (1, 4, [61]), (0, 101, []), (1, 0, [63]), (0, 5454, []), (1, 3, [2, 2, 65, 67, 69, 2, 2, 2, 2, 2, 2, 0, 0, 0, 0, 0]), (1, 4, [66]), (0, 100, []), (1, 4, [68]), (0, 100, []), (1, 4, [70]), (0, 100, []), (1, 4, [2])]
def WL108 : List Sh := [(1, 6, [4, 13, 51, 53, 55, 2, 0, 0]), (1, 5, [5, 7, 9, 11, 0]), (1, 4, [6]), (0, 100, []), (1, 4, [8]), (0, 6, []), (1, 4, [10]), (0, 48, []), (1, 4, [12]), (0, 6, []), (1, 1, [14, 0, 0]), (2, 4, [15, 24, 33, 42]), (1, 5, [16, 18, 20, 22, 0]), (1, 4, [17]), (0, 100, []), (1, 4, [19]), (0, 6, []), (1, 4, [21]), (0, 48, []), (1, 4, [23]), (0, 6, []), (1, 5, [25, 27, 29, 31, 0]), (1, 4, [26]), (0, 100, []), (1, 4, [28]), (0, 6, []), (1, 4, [30]), (0, 48, []), (1, 4, [32]), (0, 6, []), (1, 5, [34, 36, 38, 40, 0]), (1, 4, [35]), (0, 100, []), (1, 4, [37]), (0, 6, []), (1, 4, [39]), (0, 48, []), (1, 4, [41]), (0, 6, []), (1, 5, [43, 45, 47, 49, 0]), (1, 4, [44]), (0, 100, []), (1, 4, [46]), (0, 6, []), (1, 4, [48]), (0, 48, []), (1, 4, [50]), (0, 6, []), (1, 4, [52]), (0, 8, []), (1, 4, [54]), (0, 3, []), (1, 2, [4, 56, 58, 60, 62]), (1, 4, [57]), (0, 101, []), (1, 4, [59]), (0, 101, []), (1, 4, [61]), (0, 101, []), (1, 0, [63]), (0, 5454, []), (1, 3, [2, 2, 65, 67, 69, 2, 2, 2, 2, 2, 2, 0, 0, 0, 0, 0]), (1, 4, [66]), (0, 100, []), (1, 4, [68]), (0, 100, []), (1, 4, [70]), (0, 100, []), (1, 4, [72]), (0, 100, [])]
def WL109 : List Sh := [(1, 6, [4, 13, 51, 53, 55, 2, 0, 0]), (1, 5, [5, 7, 9, 11, 0]), (1, 4, [6]), (0, 100, []), (1, 4, [8]), (0, 6, []), (1, 4, [10]), (0, 48, []), (1, 4, [12]), (0, 6, []), (1, 1, [14, 0, 0]), (2, 4, [15, 24, 33, 42]), (1, 5, [16, 18, 20, 22, 0]), (1, 4, [17]), (0, 100, []), (1, 4, [19]), (0, 6, []), (1, 4, [21]), (0, 48, []), (1, 4, [23]), (0, 6, []), (1, 5, [25, 27, 29, 31, 0]), (1, 4, [26]), (0, 100, []), (1, 4, [28]), (0, 6, []), (1, 4, [30]), (0, 48, []), (1, 4, [32]), (0, 6, []), (1, 5, [34, 36, 38, 40, 0]), (1, 4, [35]), (0, 100, []), (1, 4, [37]), (0, 6, []), (1, 4, [39]), (0, 48, []), (1, 4, [41]), (0, 6, []), (1, 5, [43, 45, 47, 49, 0]), (1, 4, [44]), (0, 100, []), (1, 4, [46]), (0, 6, []), (1, 4, [48]), (0, 48, []), (1, 4, [50]), (0, 6, []), (1, 4, [52]), (0, 8, []), (1, 4, [54]), (0, 3, []), (1, 2, [4, 56, 58, 60, 62]), (1, 4, [57]), (0, 101, []), (1, 4, [59]), (0, 101, []), (1, 4, [61]), (0, 101, []), (1, 0, [63]), (0, 5454, []), (1, 3, [2, 2, 65, 67, 69, 71, 2, 2, 2, 2, 2, 0, 0, 0, 0, 0]), (1, 4, [66]), (0, 100, []), (1, 4, [68]), (0, 100, []), (1, 4, [70]), (0, 100, []), (1, 4, [72]), (0, 100, [])]
def WL110 : List Sh := [(1, 6, [4, 13, 51, 53, 55, 2, 0, 0]), (1, 5, [5, 7, 9, 11, 0]), (1, 4, [6]), (0, 100, []), (1, 4, [8]), (0, 6, []), (1, 4, [10]), (0, 48, []), (1, 4, [12]), (0, 6, []), (1, 1, [14, 0, 0]), (2, 4, [15, 24, 33, 42]), (1, 5, [16, 18, 20, 22, 0]), (1, 4, [17]), (0, 100, []), (1, 4, [19]), (0, 6, []), (1, 4, [21]), (0, 48, []), (1, 4, [23]), (0, 6, []), (1, 5, [25, 27, 29, 31, 0]), (1, 4, [26]), (0, 100, []), (1, 4, [28]), (0, 6, []), (1, 4, [30]), (0, 48, []), (1, 4, [32]), (0, 6, []), (1, 5, [34, 36, 38, 40, 0]), (1, 4, [35]), (0, 100, []), (1, 4, [37]), (0, 6, []), (1, 4, [39]), (0, 48, []), (1, 4, [41]), (0, 6, []), (1, 5, [43, 45, 47, 49, 0]), (1, 4, [44]), (0, 100, []), (1, 4, [46]), (0, 6, []), (1, 4, [48]), (0, 48, []), (1, 4, [50]), (0, 6, []), (1, 4, [52]), (0, 8, []), (1, 4, [54]), (0, 3, []), (1, 2, [4, 56, 58, 60, 62]), (1, 4, [57]), (0, 101, []), (1, 4, [59]), (0, 101, []), (1, 4, [61]), (0, 101, []), (1, 0, [63]), (0, 5454, []), (1, 3, [2, 2, 65, 67, 69, 71, 2, 2, 2, 2, 2, 0, 0, 0, 0, 0]), (1, 4, [66]), (0, 100, []), (1, 4, [68]), (0, 100, []), (1, 4, [70]), (0, 100, []), (1, 4, [72]), (0, 100, []), (1, 4, [2])]
def WL111 : List Sh := [(1, 6, [4, 13, 51, 53, 55, 2, 0, 0]), (1, 5, [5, 7, 9, 11, 0]), (1, 4, [6]), (0, 100, []), (1, 4, [8]), (0, 6, []), (1, 4, [10]), (0, 48, []), (1, 4, [12]), (0, 6, []), (1, 1, [14, 0, 0]), (2, 4, [15, 24, 33, 42]), (1, 5, [16, 18, 20, 22, 0]), (1, 4, [17]), (0, 100, []), (1, 4, [19]), (0, 6, []), (1, 4, [21]), (0, 48, []), (1, 4, [23]), (0, 6, []), (1, 5, [25, 27, 29, 31, 0]), (1, 4, [26]), (0, 100, []), (1, 4, [28]), (0, 6, []), (1, 4, [30]), (0, 48, []), (1, 4, [32]), (0, 6, []), (1, 5, [34, 36, 38, 40, 0]), (1, 4, [35]), (0, 100, []), (1, 4, [37]), (0, 6, []), (1, 4, [39]), (0, 48, []), (1, 4, [41]), (0, 6, []), (1, 5, [43, 45, 47, 49, 0]), (1, 4, [44]), (0, 100, []), (1, 4, [46]), (0, 6, []), (1, 4, [48]), (0, 48, []), (1, 4, [50]), (0, 6, []), (1, 4, [52]), (0, 8, []), (1, 4, [54]), (0, 3, []), (1, 2, [4, 56, 58, 60, 62]), (1, 4, [57]), (0, 101, []), (1, 4, [59]), (0, 101, []), (1, 4, [61]), (0, 101, []), (1, 0, [63]), (0, 5454, []), (1, 3, [2, 2, 65, 67, 69, 71, 2, 2, 2, 2, 2, 0, 0, 0, 0, 0]), (1, 4, [66]), (0, 100, []), (1, 4, [68]), (0, 100, []), (1, 4, [70]), (0, 100, []), (1, 4, [72]), (0, 100, []), (1, 4, [74]), (0, 100, [])]
def WL112 : List Sh := [(1, 6, [4, 13, 51, 53, 55, 2, 0, 0]), (1, 5, [5, 7, 9, 11, 0]), (1, 4, [6]), (0, 100, []), (1, 4, [8]), (0, 6, []), (1, 4, [10]), (0, 48, []), (1, 4, [12]), (0, 6, []), (1, 1, [14, 0, 0]), (2, 4, [15, 24, 33, 42]), (1, 5, [16, 18, 20, 22, 0]), (1, 4, [17]), (0, 100, []), (1, 4, [19]), (0, 6, []), (1, 4, [21]), (0, 48, []), (1, 4, [23]), (0, 6, []), (1, 5, [25, 27, 29, 31, 0]), (1, 4, [26]), (0, 100, []), (1, 4, [28]), (0, 6, []), (1, 4, [30]), (0, 48, []), (1, 4, [32]), (0, 6, []), (1, 5, [34, 36, 38, 40, 0]), (1, 4, [35]), (0, 100, []), (1, 4, [37]), (0, 6, []), (1, 4, [39]), (0, 48, []), (1, 4, [41]), (0, 6, []), (1, 5, [43, 45, 47, 49, 0]), (1, 4, [44]), (0, 100, []), (1, 4, [46]), (0, 6, []), (1, 4, [48]), (0, 48, []), (1, 4, [50]), (0, 6, []), (1, 4, [52]), (0, 8, []), (1, 4, [54]), (0, 3, []), (1, 2, [4, 56, 58, 60, 62]), (1, 4, [57]), (0, 101, []), (1, 4, [59]), (0, 101, []), (1, 4, [61]), (0, 101, []), (1, 0, [63]), (0, 5454, []), (1, 3, [2, 2, 65, 67, 69, 71, 73, 2, 2, 2, 2, 0, 0, 0, 0, 0]), (1, 4, [66]), (0, 100, []), (1, 4, [68]), (0, 100, []), (1, 4, [70]), (0, 100, []), (1, 4, [72]), (0, 100, []), (1, 4, [74]), (0, 100, [])]
def WL113 : List Sh := [(1, 6, [4, 13, 51, 53, 55, 2, 0, 0]), (1, 5, [5, 7, 9, 11, 0]), (1, 4, [6]), (0, 100, []), (1, 4, [8]), (0, 6, []), (1, 4, [10]), (0, 48, []), (1, 4, [12]), (0, 6, []), (1, 1, [14, 0, 0]), (2, 4, [15, 24, 33, 42]), (1, 5, [16, 18, 20, 22, 0]), (1, 4, [17]), (0, 100, []), (1, 4, [19]), (0, 6, []), (1, 4, [21]), (0, 48, []), (1, 4, [23]), (0, 6, []), (1, 5, [25, 27, 29, 31, 0]), (1, 4, [26]), (0, 100, []), (1, 4, [28]), (0, 6, []), (1, 4, [30]), (0, 48, []), (1, 4, [32]), (0, 6, []), (1, 5, [34, 36, 38, 40, 0]), (1, 4, [35]), (0, 100, []), (1, 4, [37]), (0, 6, []), (1, 4, [39]), (0, 48, []), (1, 4, [41]), (0, 6, []), (1, 5, [43, 45, 47, 49, 0]), (1, 4, [44]), (0, 100, []), (1, 4, [46]), (0, 6, []), (1, 4, [48]), (0, 48, []), (1, 4, [50]), (0, 6, []), (1, 4, [52]), (0, 8, []), (1, 4, [54]), (0, 3, []), (1, 2, [4, 56, 58, 60, 62]), (1, 4, [57]), (0, 101, []), (1, 4, [59]), (0, 101, []), (1, 4, [61]), (0, 101, []), (1, 0, [63]), (0, 5454, []), (1, 3, [2, 2, 65, 67, 69, 71, 73, 2, 2, 2, 2, 0, 0, 0, 0, 0]), (1, 4, [66]), (0, 100, []), (1, 4, [68]), (0, 100, []), (1, 4, [70]), (0, 100, []), (1, 4, [72]), (0, 100, []), (1, 4, [74]), (0, 100, []), (1, 4, [2])]
def WL114 : List Sh := [(1, 6, [4, 13, 51, 53, 55, 2, 0, 0]), (1, 5, [5, 7, 9, 11, 0]), (1, 4, [6]), (0, 100, []), (1, 4, [8]), (0, 6, []), (1, 4, [10]), (0, 48, []), (1, 4, [12]), (0, 6, []), (1, 1, [14, 0, 0]), (2, 4, [15, 24, 33, 42]), (1, 5, [16, 18, 20, 22, 0]), (1, 4, [17]), (0, 100, []), (1, 4, [19]), (0, 6, []), (1, 4, [21]), (0, 48, []), (1, 4, [23]), (0, 6, []), (1, 5, [25, 27, 29, 31, 0]), (1, 4, [26]), (0, 100, []), (1, 4, [28]), (0, 6, []), (1, 4, [30]), (0, 48, []), (1, 4, [32]), (0, 6, []), (1, 5, [34, 36, 38, 40, 0]), (1, 4, [35]), (0, 100, []), (1, 4, [37]), (0, 6, []), (1, 4, [39]), (0, 48, []), (1, 4, [41]), (0, 6, []), (1, 5, [43, 45, 47, 49, 0]), (1, 4, [44]), (0, 100, []), (1, 4, [46]), (0, 6, []), (1, 4, [48]), (0, 48, []), (1, 4, [50]), (0, 6, []), (1, 4, [52]), (0, 8, []), (1, 4, [54]), (0, 3, []), (1, 2, [4, 56, 58, 60, 62]), (1, 4, [57]), (0, 101, []), (1, 4, [59]), (0, 101, []), (1, 4, [61]), (0, 101, []), (1, 0, [63]), (0, 5454, []), (1, 3, [2, 2, 65, 67, 69, 71, 73, 2, 2, 2, 2, 0, 0, 0, 0, 0]), (1, 4, [66]), (0, 100, []), (1, 4, [68]), (0, 100, []), (1, 4, [70]), (0, 100, []), (1, 4, [72]), (0, 100, []), (1, 4, [74]), (0, 100, []), (1, 4, [76]), (0, 100, [])]
def WL115 : List Sh := [(1, 6, [4, 13, 51, 53, 55, 2, 0, 0]), (1, 5, [5, 7, 9, 11, 0]), (1, 4, [6]), (0, 100, []), (1, 4, [8]), (0, 6, []), (1, 4, [10]), (0, 48, []), (1, 4, [12]), (0, 6, []), (1, 1, [14, 0, 0]), (2, 4, [15, 24, 33, 42]), (1, 5, [16, 18, 20, 22, 0]), (1, 4, [17]), (0, 100, []), (1, 4, [19]), (0, 6, []), (1, 4, [21]), (0, 48, []), (1, 4, [23]), (0, 6, []), (1, 5, [25, 27, 29, 31, 0]), (1, 4, [26]), (0, 100, []), (1, 4, [28]), (0, 6, []), (1, 4, [30]), (0, 48, []), (1, 4, [32]), (0, 6, []), (1, 5, [34, 36, 38, 40, 0]), (1, 4, [35]), (0, 100, []), (1, 4, [37]), (0, 6, []), (1, 4, [39]), (0, 48, []), (1, 4, [41]), (0, 6, []), (1, 5, [43, 45, 47, 49, 0]), (1, 4, [44]), (0, 100, []), (1, 4, [46]), (0, 6, []), (1, 4, [48]), (0, 48, []), (1, 4, [50]), (0, 6, []), (1, 4, [52]), (0, 8, []), (1, 4, [54]), (0, 3, []), (1, 2, [4, 56, 58, 60, 62]), (1, 4, [57]), (0, 101, []), (1, 4, [59]), (0, 101, []), (1, 4, [61]), (0, 101, []), (1, 0, [63]), (0, 5454, []), (1, 3, [2, 2, 65, 67, 69, 71, 73, 75, 2, 2, 2, 0, 0, 0, 0, 0]), (1, 4, [66]), (0, 100, []), (1, 4, [68]), (0, 100, []), (1, 4, [70]), (0, 100, []), (1, 4, [72]), (0, 100, []), (1, 4, [74]), (0, 100, []), (1, 4, [76]), (0, 100, [])]
def WL116 : List Sh := [(1, 6, [4, 13, 51, 53, 55, 2, 0, 0]), (1, 5, [5, 7, 9, 11, 0]), (1, 4, [6]), (0, 100, []), (1, 4, [8]), (0, 6, []), (1, 4, [10]), (0, 48, []), (1, 4, [12]), (0, 6, []), (1, 1, [14, 0, 0]), (2, 4, [15, 24, 33, 42]), (1, 5, [16, 18, 20, 22, 0]), (1, 4, [17]), (0, 100, []), (1, 4, [19]), (0, 6, []), (1, 4, [21]), (0, 48, []), (1, 4, [23]), (0, 6, []), (1, 5, [25, 27, 29, 31, 0]), (1, 4, [26]), (0, 100, []), (1, 4, [28]), (0, 6, []), (1, 4, [30]), (0, 48, []), (1, 4, [32]), (0, 6, []), (1, 5, [34, 36, 38, 40, 0]), (1, 4, [35]), (0, 100, []), (1, 4, [37]), (0, 6, []), (1, 4, [39]), (0, 48, []), (1, 4, [41]), (0, 6, []), (1, 5, [43, 45, 47, 49, 0]), (1, 4, [44]), (0, 100, []), (1, 4, [46]), (0, 6, []), (1, 4, [48]), (0, 48, []), (1, 4, [50]), (0, 6, []), (1, 4, [52]), (0, 8, []), (1, 4, [54]), (0, 3, []), (1, 2, [4, 56, 58, 60, 62]), (1, 4, [57]), (0, 101, []), (1, 4, [59]), (0, 101, []), (1, 4, [61]), (0, 101, []), (1, 0, [63]), (0, 5454, []), (1, 3, [2, 2, 65, 67, 69, 71, 73, 75, 2, 2, 2, 0, 0, 0, 0, 0]), (1, 4, [66]), (0, 100, []), (1, 4, [68]), (0, 100, []), (1, 4, [70]), (0, 100, []), (1, 4, [72]), (0, 100, []), (1, 4, [74]), (0, 100, []), (1, 4, [76]), (0, 100, []), (1, 4, [2])]
def WL117 : List Sh := [(1, 6, [4, 13, 51, 53, 55, 2, 0, 0]), (1, 5, [5, 7, 9, 11, 0]), (1, 4, [6]), (0, 100, []), (1, 4, [8]), (0, 6, []), (1, 4, [10]), (0, 48, []), (1, 4, [12]), (0, 6, []), (1, 1, [14, 0, 0]), (2, 4, [15, 24, 33, 42]), (1, 5, [16, 18, 20, 22, 0]), (1, 4, [17]), (0, 100, []), (1, 4, [19]), (0, 6, []), (1, 4, [21]), (0, 48, []), (1, 4, [23]), (0, 6, []), (1, 5, [25, 27, 29, 31, 0]), (1, 4, [26]), (0, 100, []), (1, 4, [28]), (0, 6, []), (1, 4, [30]), (0, 48, []), (1, 4, [32]), (0, 6, []), (1, 5, [34, 36, 38, 40, 0]), (1, 4, [35]), (0, 100, []), (1, 4, [37]), (0, 6, []), (1, 4, [39]), (0, 48, []), (1, 4, [41]), (0, 6, []), (1, 5, [43, 45, 47, 49, 0]), (1, 4, [44]), (0, 100, []), (1, 4, [46]), (0, 6, []), (1, 4, [48]), (0, 48, []), (1, 4, [50]), (0, 6, []), (1, 4, [52]), (0, 8, []), (1, 4, [54]), (0, 3, []), (1, 2, [4, 56, 58, 60, 62]), (1, 4, [57]), (0, 101, []), (1, 4, [59]), (0, 101, []), (1, 4, [61]), (0, 101, []), (1, 0, [63]), (0, 5454, []), (1, 3, [2, 2, 65, 67, 69, 71, 73, 75, 2, 2, 2, 0, 0, 0, 0, 0]), (1, 4, [66]), (0, 100, []), (1, 4, [68]), (0, 100, []), (1, 4, [70]), (0, 100, []), (1, 4, [72]), (0, 100, []), (1, 4, [74]), (0, 100, []), (1, 4, [76]), (0, 100, []), (1, 4, [78]), (0, 100, [])]
def WL118 : List Sh := [(1, 6, [4, 13, 51, 53, 55, 2, 0, 0]), (1, 5, [5, 7, 9, 11, 0]), (1, 4, [6]), (0, 100, []), (1, 4, [8]), (0, 6, []), (1, 4, [10]), (0, 48, []), (1, 4, [12]), (0, 6, []), (1, 1, [14, 0, 0]), (2, 4, [15, 24, 33, 42]), (1, 5, [16, 18, 20, 22, 0]), (1, 4, [17]), (0, 100, []), (1, 4, [19]), (0, 6, []), (1, 4, [21]), (0, 48, []), (1, 4, [23]), (0, 6, []), (1, 5, [25, 27, 29, 31, 0]), (1, 4, [26]), (0, 100, []), (1, 4, [28]), (0, 6, []), (1, 4, [30]), (0, 48, []), (1, 4, [32]), (0, 6, []), (1, 5, [34, 36, 38, 40, 0]), (1, 4, [35]), (0, 100, []), (1, 4, [37]), (0, 6, []), (1, 4, [39]), (0, 48, []), (1, 4, [41]), (0, 6, []), (1, 5, [43, 45, 47, 49, 0]), (1, 4, [44]), (0, 100, []), (1, 4, [46]), (0, 6, []), (1, 4, [48]), (0, 48, []), (1, 4, [50]), (0, 6, []), (1, 4, [52]), (0, 8, []), (1, 4, [54]), (0, 3, []), (1, 2, [4, 56, 58, 60, 62]), (1, 4, [57]), (0, 101, []), (1, 4, [59]), (0, 101, []), (1, 4, [61]), (0, 101, []), (1, 0, [63]), (0, 5454, []), (1, 3, [2, 2, 65, 67, 69, 71, 73, 75, 77, 2, 2, 0, 0, 0, 0, 0]), (1, 4, [66]), (0, 100, []), (1, 4, [68]), (0, 100, []), (1, 4, [70]), (0, 100, []), (1, 4, [72]), (0, 100, []), (1, 4, [74]), (0, 100, []), (1, 4, [76]), (0, 100, []), (1, 4, [78]), (0, 100, [])]
def WL119 : List Sh := [(1, 6, [4, 13, 51, 53, 55, 2, 0, 0]), (1, 5, [5, 7, 9, 11, 0]), (1, 4, [6]), (0, 100, []), (1, 4, [8]), (0, 6, []), (1, 4, [10]), (0, 48, []), (1, 4, [12]), (0, 6, []), (1, 1, [14, 0, 0]), (2, 4, [15, 24, 33, 42]), (1, 5, [16, 18, 20, 22, 0]), (1, 4, [17]), (0, 100, []), (1, 4, [19]), (0, 6, []), (1, 4, [21]), (0, 48, []), (1, 4, [23]), (0, 6, []), (1, 5, [25, 27, 29, 31, 0]), (1, 4, [26]), (0, 100, []), (1, 4, [28]), (0, 6, []), (1, 4, [30]), (0, 48, []), (1, 4, [32]), (0, 6, []), (1, 5, [34, 36, 38, 40, 0]), (1, 4, [35]), (0, 100, []), (1, 4, [37]), (0, 6, []), (1, 4, [39]), (0, 48, []), (1, 4, [41]), (0, 6, []), (1, 5, [43, 45, 47, 49, 0]), (1, 4, [44]), (0, 100, []), (1, 4, [46]), (0, 6, []), (1, 4, [48]), (0, 48, []), (1, 4, [50]), (0, 6, []), (1, 4, [52]), (0, 8, []), (1, 4, [54]), (0, 3, []), (1, 2, [4, 56, 58, 60, 62]), (1, 4, [57]), (0, 101, []), (1, 4, [59]), (0, 101, []), (1, 4, [61]), (0, 101, []), (1, 0, [63]), (0, 5454, []), (1, 3, [2, 2, 65, 67, 69, 71, 73, 75, 77, 2, 2, 0, 0, 0, 0, 0]), (1, 4, [66]), (0, 100, []), (1, 4, [68]), (0, 100, []), (1, 4, [70]), (0, 100, []), (1, 4, [72]), (0, 100, []), (1, 4, [74]), (0, 100, []), (1, 4, [76]), (0, 100, []), (1, 4, [78]), (0, 100, []), (1, 4, [2])]
def WL120 : List Sh := [(1, 6, [4, 13, 51, 53, 55, 2, 0, 0]), (1, 5, [5, 7, 9, 11, 0]), (1, 4, [6]), (0, 100, []), (1, 4, [8]), (0, 6, []), (1, 4, [10]), (0, 48, []), (1, 4, [12]), (0, 6, []), (1, 1, [14, 0, 0]), (2, 4, [15, 24, 33, 42]), (1, 5, [16, 18, 20, 22, 0]), (1, 4, [17]), (0, 100, []), (1, 4, [19]), (0, 6, []), (1, 4, [21]), (0, 48, []), (1, 4, [23]), (0, 6, []), (1, 5, [25, 27, 29, 31, 0]), (1, 4, [26]), (0, 100, []), (1, 4, [28]), (0, 6, []), (1, 4, [30]), (0, 48, []), (1, 4, [32]), (0, 6, []), (1, 5, [34, 36, 38, 40, 0]), (1, 4, [35]), (0, 100, []), (1, 4, [37]), (0, 6, []), (1, 4, [39]), (0, 48, []), (1, 4, [41]), (0, 6, []), (1, 5, [43, 45, 47, 49, 0]), (1, 4, [44]), (0, 100, []), (1, 4, [46]), (0, 6, []), (1, 4, [48]), (0, 48, []), (1, 4, [50]), (0, 6, []), (1, 4, [52]), (0, 8, []), (1, 4, [54]), (0, 3, []), (1, 2, [4, 56, 58, 60, 62]), (1, 4, [57]), (0, 101, []), (1, 4, [59]), (0, 101, []), (1, 4, [61]), (0, 101, []), (1, 0, [63]), (0, 5454, []), (1, 3, [2, 2, 65, 67, 69, 71, 73, 75, 77, 2, 2, 0, 0, 0, 0, 0]), (1, 4, [66]), (0, 100, []), (1, 4, [68]), (0, 100, []), (1, 4, [70]), (0, 100, []), (1, 4, [72]), (0, 100, []), (1, 4, [74]), (0, 100, []), (1, 4, [76]), (0, 100, []), (1, 4, [78]), (0, 100, []), (1, 4, [80]), (0, 100, [])]
def WL121 : List Sh := [(1, 6, [4, 13, 51, 53, 55, 2, 0, 0]), (1, 5, [5, 7, 9, 11, 0]), (1, 4, [6]), (0, 100, []), (1, 4, [8]), (0, 6, []), (1, 4, [10]), (0, 48, []), (1, 4, [12]), (0, 6, []), (1, 1, [14, 0, 0]), (2, 4, [15, 24, 33, 42]), (1, 5, [16, 18, 20, 22, 0]), (1, 4, [17]), (0, 100, []), (1, 4, [19]), (0, 6, []), (1, 4, [21]), (0, 48, []), (1, 4, [23]), (0, 6, []), (1, 5, [25, 27, 29, 31, 0]), (1, 4, [26]), (0, 100, []), (1, 4, [28]), (0, 6, []), (1, 4, [30]), (0, 48, []), (1, 4, [32]), (0, 6, []), (1, 5, [34, 36, 38, 40, 0]), (1, 4, [35]), (0, 100, []), (1, 4, [37]), (0, 6, []), (1, 4, [39]), (0, 48, []), (1, 4, [41]), (0, 6, []), (1, 5, [43, 45, 47, 49, 0]), (1, 4, [44]), (0, 100, []), (1, 4, [46]), (0, 6, []), (1, 4, [48]), (0, 48, []), (1, 4, [50]), (0, 6, []), (1, 4, [52]), (0, 8, []), (1, 4, [54]), (0, 3, []), (1, 2, [4, 56, 58, 60, 62]), (1, 4, [57]), (0, 101, []), (1, 4, [59]), (0, 101, []), (1, 4, [61]), (0, 101, []), (1, 0, [63]), (0, 5454, []), (1, 3, [2, 2, 65, 67, 69, 71, 73, 75, 77, 79, 2, 0, 0, 0, 0, 0]), (1, 4, [66]), (0, 100, []), (1, 4, [68]), (0, 100, []), (1, 4, [70]), (0, 100, []), (1, 4, [72]), (0, 100, []), (1, 4, [74]), (0, 100, []), (1, 4, [76]), (0, 100, []), (1, 4, [78]), (0, 100, []), (1, 4, [80]), (0, 100, [])]
def WL122 : List Sh := [(1, 6, [4, 13, 51, 53, 55, 2, 0, 0]), (1, 5, [5, 7, 9, 11, 0]), (1, 4, [6]), (0, 100, []), (1, 4, [8]), (0, 6, []), (1, 4, [10]), (0, 48, []), (1, 4, [12]), (0, 6, []), (1, 1, [14, 0, 0]), (2, 4, [15, 24, 33, 42]), (1, 5, [16, 18, 20, 22, 0]), (1, 4, [17]), (0, 100, []), (1, 4, [19]), (0, 6, []), (1, 4, [21]), (0, 48, []), (1, 4, [23]), (0, 6, []), (1, 5, [25, 27, 29, 31, 0]), (1, 4, [26]), (0, 100, []), (1, 4, [28]), (0, 6, []), (1, 4, [30]), (0, 48, []), (1, 4, [32]), (0, 6, []), (1, 5, [34, 36, 38, 40, 0]), (1, 4, [35]), (0, 100, []), (1, 4, [37]), (0, 6, []), (1, 4, [39]), (0, 48, []), (1, 4, [41]), (0, 6, []), (1, 5, [43, 45, 47, 49, 0]), (1, 4, [44]), (0, 100, []), (1, 4, [46]), (0, 6, []), (1, 4, [48]), (0, 48, []), (1, 4, [50]), (0, 6, []), (1, 4, [52]), (0, 8, []), (1, 4, [54]), (0, 3, []), (1, 2, [4, 56, 58, 60, 62]), (1, 4, [57]), (0, 101, []), (1, 4, [59]), (0, 101, []), (1, 4, [61]), (0, 101, []), (1, 0, [63]), (0, 5454, []), (1, 3, [2, 2, 65, 67, 69, 71, 73, 75, 77, 79, 2, 0, 0, 0, 0, 0]), (1, 4, [66]), (0, 100, []), (1, 4, [68]), (0, 100, []), (1, 4, [70]), (0, 100, []), (1, 4, [72]), (0, 100, []), (1, 4, [74]), (0, 100, []), (1, 4, [76]), (0, 100, []), (1, 4, [78]), (0, 100, []), (1, 4, [80]), (0, 100, []), (1, 4, [2])]
def WL123 : List Sh := [(1, 6, [4, 13, 51, 53, 55, 2, 0, 0]), (1, 5, [5, 7, 9, 11, 0]), (1, 4, [6]), (0, 100, []), (1, 4, [8]), (0, 6, []), (1, 4, [10]), (0, 48, []), (1, 4, [12]), (0, 6, []), (1, 1, [14, 0, 0]), (2, 4, [15, 24, 33, 42]), (1, 5, [16, 18, 20, 22, 0]), (1, 4, [17]), (0, 100, []), (1, 4, [19]), (0, 6, []), (1, 4, [21]), (0, 48, []), (1, 4, [23]), (0, 6, []), (1, 5, [25, 27, 29, 31, 0]), (1, 4, [26]), (0, 100, []), (1, 4, [28]), (0, 6, []), (1, 4, [30]), (0, 48, []), (1, 4, [32]), (0, 6, []), (1, 5, [34, 36, 38, 40, 0]), (1, 4, [35]), (0, 100, []), (1, 4, [37]), (0, 6, []), (1, 4, [39]), (0, 48, []), (1, 4, [41]), (0, 6, []), (1, 5, [43, 45, 47, 49, 0]), (1, 4, [44]), (0, 100, []), (1, 4, [46]), (0, 6, []), (1, 4, [48]), (0, 48, []), (1, 4, [50]), (0, 6, []), (1, 4, [52]), (0, 8, []), (1, 4, [54]), (0, 3, []), (1, 2, [4, 56, 58, 60, 62]), (1, 4, [57]), (0, 101, []), (1, 4, [59]), (0, 101, []), (1, 4, [61]), (0, 101, []), (1, 0, [63]), (0, 5454, []), (1, 3, [2, 2, 65, 67, 69, 71, 73, 75, 77, 79, 2, 0, 0, 0, 0, 0]), (1, 4, [66]), (0, 100, []), (1, 4, [68]), (0, 100, []), (1, 4, [70]), (0, 100, []), (1, 4, [72]), (0, 100, []), (1, 4, [74]), (0, 100, []), (1, 4, [76]), (0, 100, []), (1, 4, [78]), (0, 100, []), (1, 4, [80]), (0, 100, []), (1, 4, [82]), (0, 100, [])]
def WL124 : List Sh := [(1, 6, [4, 13, 51, 53, 55, 2, 0, 0]), (1, 5, [5, 7, 9, 11, 0]), (1, 4, [6]), (0, 100, []), (1, 4, [8]), (0, 6, []), (1, 4, [10]), (0, 48, []), (1, 4, [12]), (0, 6, []), (1, 1, [14, 0, 0]), (2, 4, [15, 24, 33, 42]), (1, 5, [16, 18, 20, 22, 0]), (1, 4, [17]), (0, 100, []), (1, 4, [19]), (0, 6, []), (1, 4, [21]), (0, 48, []), (1, 4, [23]), (0, 6, []), (1, 5, [25, 27, 29, 31, 0]), (1, 4, [26]), (0, 100, []), (1, 4, [28]), (0, 6, []), (1, 4, [30]), (0, 48, []), (1, 4, [32]), (0, 6, []), (1, 5, [34, 36, 38, 40, 0]), (1, 4, [35]), (0, 100, []), (1, 4, [37]), (0, 6, []), (1, 4, [39]), (0, 48, []), (1, 4, [41]), (0, 6, []), (1, 5, [43, 45, 47, 49, 0]), (1, 4, [44]), (0, 100, []), (1, 4, [46]), (0, 6, []), (1, 4, [48]), (0, 48, []), (1, 4, [50]), (0, 6, []), (1, 4, [52]), (0, 8, []), (1, 4, [54]), (0, 3, []), (1, 2, [4, 56, 58, 60, 62]), (1, 4, [57]), (0, 101, []), (1, 4, [59]), (0, 101, []), (1, 4, [61]), (0, 101, []), (1, 0, [63]), (0, 5454, []), (1, 3, [2, 2, 65, 67, 69, 71, 73, 75, 77, 79, 81, 0, 0, 0, 0, 0]), (1, 4, [66]), (0, 100, []), (1, 4, [68]), (0, 100, []), (1, 4, [70]), (0, 100, []), (1, 4, [72]), (0, 100, []), (1, 4, [74]), (0, 100, []), (1, 4, [76]), (0, 100, []), (1, 4, [78]), (0, 100, []), (1, 4, [80]), (0, 100, []), (1, 4, [82]), (0, 100, [])]
def WL125 : List Sh := [(1, 6, [4, 13, 51, 53, 55, 2, 0, 0]), (1, 5, [5, 7, 9, 11, 0]), (1, 4, [6]), (0, 100, []), (1, 4, [8]), (0, 6, []), (1, 4, [10]), (0, 48, []), (1, 4, [12]), (0, 6, []), (1, 1, [14, 0, 0]), (2, 4, [15, 24, 33, 42]), (1, 5, [16, 18, 20, 22, 0]), (1, 4, [17]), (0, 100, []), (1, 4, [19]), (0, 6, []), (1, 4, [21]), (0, 48, []), (1, 4, [23]), (0, 6, []), (1, 5, [25, 27, 29, 31, 0]), (1, 4, [26]), (0, 100, []), (1, 4, [28]), (0, 6, []), (1, 4, [30]), (0, 48, []), (1, 4, [32]), (0, 6, []), (1, 5, [34, 36, 38, 40, 0]), (1, 4, [35]), (0, 100, []), (1, 4, [37]), (0, 6, []), (1, 4, [39]), (0, 48, []), (1, 4, [41]), (0, 6, []), (1, 5, [43, 45, 47, 49, 0]), (1, 4, [44]), (0, 100, []), (1, 4, [46]), (0, 6, []), (1, 4, [48]), (0, 48, []), (1, 4, [50]), (0, 6, []), (1, 4, [52]), (0, 8, []), (1, 4, [54]), (0, 3, []), (1, 2, [4, 56, 58, 60, 62]), (1, 4, [57]), (0, 101, []), (1, 4, [59]), (0, 101, []), (1, 4, [61]), (0, 101, []), (1, 0, [63]), (0, 5454, []), (1, 3, [4, 2, 65, 67, 69, 71, 73, 75, 77, 79, 81, 0, 0, 0, 0, 0]), (1, 4, [66]), (0, 100, []), (1, 4, [68]), (0, 100, []), (1, 4, [70]), (0, 100, []), (1, 4, [72]), (0, 100, []), (1, 4, [74]), (0, 100, []), (1, 4, [76]), (0, 100, []), (1, 4, [78]), (0, 100, []), (1, 4, [80]), (0, 100, []), (1, 4, [82]), (0, 100, [])]
def WL126 : List Sh := [(1, 6, [4, 13, 51, 53, 55, 2, 0, 0]), (1, 5, [5, 7, 9, 11, 0]), (1, 4, [6]), (0, 100, []), (1, 4, [8]), (0, 6, []), (1, 4, [10]), (0, 48, []), (1, 4, [12]), (0, 6, []), (1, 1, [14, 0, 0]), (2, 4, [15, 24, 33, 42]), (1, 5, [16, 18, 20, 22, 0]), (1, 4, [17]), (0, 100, []), (1, 4, [19]), (0, 6, []), (1, 4, [21]), (0, 48, []), (1, 4, [23]), (0, 6, []), (1, 5, [25, 27, 29, 31, 0]), (1, 4, [26]), (0, 100, []), (1, 4, [28]), (0, 6, []), (1, 4, [30]), (0, 48, []), (1, 4, [32]), (0, 6, []), (1, 5, [34, 36, 38, 40, 0]), (1, 4, [35]), (0, 100, []), (1, 4, [37]), (0, 6, []), (1, 4, [39]), (0, 48, []), (1, 4, [41]), (0, 6, []), (1, 5, [43, 45, 47, 49, 0]), (1, 4, [44]), (0, 100, []), (1, 4, [46]), (0, 6, []), (1, 4, [48]), (0, 48, []), (1, 4, [50]), (0, 6, []), (1, 4, [52]), (0, 8, []), (1, 4, [54]), (0, 3, []), (1, 2, [4, 56, 58, 60, 62]), (1, 4, [57]), (0, 101, []), (1, 4, [59]), (0, 101, []), (1, 4, [61]), (0, 101, []), (1, 0, [63]), (0, 5454, []), (1, 3, [4, 55, 65, 67, 69, 71, 73, 75, 77, 79, 81, 0, 0, 0, 0, 0]), (1, 4, [66]), (0, 100, []), (1, 4, [68]), (0, 100, []), (1, 4, [70]), (0, 100, []), (1, 4, [72]), (0, 100, []), (1, 4, [74]), (0, 100, []), (1, 4, [76]), (0, 100, []), (1, 4, [78]), (0, 100, []), (1, 4, [80]), (0, 100, []), (1, 4, [82]), (0, 100, [])]
def sg_Nodes_61 (σ : St) : St := (up (up (up (up (up (ur (ur (ur (ur (ur (ur (ur (ur (ur (ur (ur (ur (ur (ur (ur (ur (ur (ur σ 62 (fun _ => 0)) 63 (fun _ => 0)) 64 (fun _ => 0)) 65 (fun _ => 0)) 66 (fun _ => 0)) 67 (fun _ => 0)) 68 (fun _ => 0)) 69 (fun _ => 0)) 70 (fun _ => 0)) 71 (fun _ => 0)) 72 (fun _ => 0)) 73 (fun _ => 0)) 74 (fun _ => 0)) 75 (fun _ => 0)) 76 (fun _ => 0)) 77 (fun _ => 0)) 78 (fun _ => 0)) 79 (fun _ => 0)) 61 11 0) 61 12 0) 61 13 0) 61 14 0) 61 15 0)
abbrev rc_Nodes_61 : Room := ({ frames := 2, cells := 18, slots := 909, locals := 33 } : Room)
set_option maxHeartbeats 4000000 in
set_option maxRecDepth 100000 in
theorem cc_Nodes_61 (l : Launch) (w : GW) (g0 : Nat → Nat) (σ : St) (sz : Nat) (x61 : Nat) (a61 : g0 61 = x61) (x1 : Nat) (a1 : g0 1 = x1) (x52 : Nat) (a52 : g0 52 = x52) : Met l yX3_init (Cond.code yX3_init cX3_init 3 none :: wsL_law) rc_Nodes_61 (gPcC (gw w g0) WL97 σ sz [.ref x61, .ref x1, .ref x52]) (gQc w g0 WL97.length sz WL126 (sg_Nodes_61 σ)) 18 909 (gA (gw w g0) WL97.length sz) := by
  refine g_metC (by decide) [.ref x61, .ref x1, .ref x52] (Nat.le_of_ble_eq_true rfl) ?_
  intro p e s m below meth c ls hz C0 hin hao hl G
  obtain ⟨hx, hb, hr, hml, hown, hts, hlk, hNw, hA⟩ := id C0
  have hown : s.vm.findClass RX3 = some m.cls := hown
  have hl : lv_has ls 3 [(0, .ref x61), (1, .ref x1), (2, .ref x52)] := hl
  have E : ∀ k, k < 62 → g0 k = g0 k := fun _ _ => rfl
  refine lv_aload_n hx hb dX3_init_0 rfl (lv_at hl 0 rfl) ?_
  refine g_objI hx hb hml hts hown wm_85 wm_10 wm_11 hl.1 (Nat.le_of_ble_eq_true rfl) (Nat.le_of_ble_eq_true rfl) dX3_init_1 ?_
  refine lv_aload_n hx hb dX3_init_4 rfl (lv_at hl 0 rfl) ?_
  refine g_newO (n := 62) (ci := 4) (C := RX4) (T := TX4) (N := 1) hx hb hts hown [2] inlX4 tyX4 tyX4_ok G hA rfl (by decide +kernel) rfl (fun j hj => by rcases (show j = 0 by omega) with rfl <;> rfl) (by decide) wm_86 wm_21 wm_22 (Nat.le_of_ble_eq_true rfl) (Nat.le_of_ble_eq_true rfl) dX3_init_5 (show _ = WL98 from rfl) (fun g x62 H a62 hg G => ?_)
  have a61 := (hg 61 (Nat.le_of_ble_eq_true rfl)).trans a61
  have a1 := (hg 1 (Nat.le_of_ble_eq_true rfl)).trans a1
  have a52 := (hg 52 (Nat.le_of_ble_eq_true rfl)).trans a52
  have E : ∀ k, k < 62 → g k = g0 k := fun k hk => (hg k (Nat.lt_of_lt_of_le hk (Nat.le_of_ble_eq_true rfl))).trans (E k hk)
  refine W.widen (k := 1) (n := 1) (Nat.le_of_ble_eq_true rfl) (Nat.le_of_ble_eq_true rfl) ?_
  refine lv_dup hx hb dX3_init_8 rfl ?_
  refine lv_bipush (v := iz 100) hx hb dX3_init_9 (by decide +kernel) ?_
  refine g_callC (n := 1) (rest := [.ref x62, .ref x61]) (n0 := 63) hx hb hml hts hown hNw hao hA G [.int (iz 100)] (c4_init l w _ _ _ 62 100 63 x62 a62 rfl (by decide +kernel) rfl (by decide) (i := 100) rfl (show _ = WL99 from rfl)) rfl wm_103 wm_46 wm_22 wm_47 rfl ⟨by decide +kernel, by decide +kernel, by decide +kernel⟩ ⟨rfl, rfl, (Nat.le_of_ble_eq_true rfl), (Nat.le_of_ble_eq_true rfl)⟩ rfl hl.1 (Nat.le_of_ble_eq_true rfl) rfl dX3_init_11 ⟨(Nat.le_of_ble_eq_true rfl), (Nat.le_of_ble_eq_true rfl)⟩ (fun g H locs hg G => ?_)
  have a61 := (hg 61 (Nat.le_of_ble_eq_true rfl)).trans a61
  have a1 := (hg 1 (Nat.le_of_ble_eq_true rfl)).trans a1
  have a52 := (hg 52 (Nat.le_of_ble_eq_true rfl)).trans a52
  have a62 := (hg 62 (Nat.le_of_ble_eq_true rfl)).trans a62
  have E : ∀ k, k < 62 → g k = g0 k := fun k hk => (hg k (Nat.lt_of_lt_of_le hk (Nat.le_of_ble_eq_true rfl))).trans (E k hk)
  refine W.widen (k := 2) (n := 101) (Nat.le_of_ble_eq_true rfl) (Nat.le_of_ble_eq_true rfl) ?_
  refine g_putF (k := 61) (ci := 3) (cs := [2, 2, 2, 2, 2, 2, 2, 2, 2, 2, 2, 0, 0, 0, 0, 0]) hx hb hts hown 2 62 inlX3 tyX3 tyX3_ok nmX3 G rfl rfl (by decide) (by decide) wm_87 rfl hin rfl rfl rfl dX3_init_14 a61 a62 (show _ = WL100 from rfl) (fun H locs G => ?_)
  refine lv_aload_n hx hb dX3_init_17 rfl (lv_at hl 0 rfl) ?_
  refine g_newO (n := 64) (ci := 4) (C := RX4) (T := TX4) (N := 1) hx hb hts hown [2] inlX4 tyX4 tyX4_ok G hA rfl (by decide +kernel) rfl (fun j hj => by rcases (show j = 0 by omega) with rfl <;> rfl) (by decide) wm_86 wm_21 wm_22 (Nat.le_of_ble_eq_true rfl) (Nat.le_of_ble_eq_true rfl) dX3_init_18 (show _ = WL101 from rfl) (fun g x64 H a64 hg G => ?_)
  have a61 := (hg 61 (Nat.le_of_ble_eq_true rfl)).trans a61
  have a1 := (hg 1 (Nat.le_of_ble_eq_true rfl)).trans a1
  have a52 := (hg 52 (Nat.le_of_ble_eq_true rfl)).trans a52
  have a62 := (hg 62 (Nat.le_of_ble_eq_true rfl)).trans a62
  have E : ∀ k, k < 62 → g k = g0 k := fun k hk => (hg k (Nat.lt_of_lt_of_le hk (Nat.le_of_ble_eq_true rfl))).trans (E k hk)
  refine W.widen (k := 3) (n := 102) (Nat.le_of_ble_eq_true rfl) (Nat.le_of_ble_eq_true rfl) ?_
  refine lv_dup hx hb dX3_init_21 rfl ?_
  refine lv_bipush (v := iz 100) hx hb dX3_init_22 (by decide +kernel) ?_
  refine g_callC (n := 1) (rest := [.ref x64, .ref x61]) (n0 := 65) hx hb hml hts hown hNw hao hA G [.int (iz 100)] (c4_init l w _ _ _ 64 100 65 x64 a64 rfl (by decide +kernel) rfl (by decide) (i := 100) rfl (show _ = WL102 from rfl)) rfl wm_103 wm_46 wm_22 wm_47 rfl ⟨by decide +kernel, by decide +kernel, by decide +kernel⟩ ⟨rfl, rfl, (Nat.le_of_ble_eq_true rfl), (Nat.le_of_ble_eq_true rfl)⟩ rfl hl.1 (Nat.le_of_ble_eq_true rfl) rfl dX3_init_24 ⟨(Nat.le_of_ble_eq_true rfl), (Nat.le_of_ble_eq_true rfl)⟩ (fun g H locs hg G => ?_)
  have a61 := (hg 61 (Nat.le_of_ble_eq_true rfl)).trans a61
  have a1 := (hg 1 (Nat.le_of_ble_eq_true rfl)).trans a1
  have a52 := (hg 52 (Nat.le_of_ble_eq_true rfl)).trans a52
  have a62 := (hg 62 (Nat.le_of_ble_eq_true rfl)).trans a62
  have a64 := (hg 64 (Nat.le_of_ble_eq_true rfl)).trans a64
  have E : ∀ k, k < 62 → g k = g0 k := fun k hk => (hg k (Nat.lt_of_lt_of_le hk (Nat.le_of_ble_eq_true rfl))).trans (E k hk)
  refine W.widen (k := 4) (n := 202) (Nat.le_of_ble_eq_true rfl) (Nat.le_of_ble_eq_true rfl) ?_
  refine g_putF (k := 61) (ci := 3) (cs := [2, 2, 65, 2, 2, 2, 2, 2, 2, 2, 2, 0, 0, 0, 0, 0]) hx hb hts hown 3 64 inlX3 tyX3 tyX3_ok nmX3 G rfl rfl (by decide) (by decide) wm_88 rfl hin rfl rfl rfl dX3_init_27 a61 a64 (show _ = WL103 from rfl) (fun H locs G => ?_)
  refine lv_aload_n hx hb dX3_init_30 rfl (lv_at hl 0 rfl) ?_
  refine g_newO (n := 66) (ci := 4) (C := RX4) (T := TX4) (N := 1) hx hb hts hown [2] inlX4 tyX4 tyX4_ok G hA rfl (by decide +kernel) rfl (fun j hj => by rcases (show j = 0 by omega) with rfl <;> rfl) (by decide) wm_86 wm_21 wm_22 (Nat.le_of_ble_eq_true rfl) (Nat.le_of_ble_eq_true rfl) dX3_init_31 (show _ = WL104 from rfl) (fun g x66 H a66 hg G => ?_)
  have a61 := (hg 61 (Nat.le_of_ble_eq_true rfl)).trans a61
  have a1 := (hg 1 (Nat.le_of_ble_eq_true rfl)).trans a1
  have a52 := (hg 52 (Nat.le_of_ble_eq_true rfl)).trans a52
  have a62 := (hg 62 (Nat.le_of_ble_eq_true rfl)).trans a62
  have a64 := (hg 64 (Nat.le_of_ble_eq_true rfl)).trans a64
  have E : ∀ k, k < 62 → g k = g0 k := fun k hk => (hg k (Nat.lt_of_lt_of_le hk (Nat.le_of_ble_eq_true rfl))).trans (E k hk)
  refine W.widen (k := 5) (n := 203) (Nat.le_of_ble_eq_true rfl) (Nat.le_of_ble_eq_true rfl) ?_
  refine lv_dup hx hb dX3_init_34 rfl ?_
  refine lv_bipush (v := iz 100) hx hb dX3_init_35 (by decide +kernel) ?_
  refine g_callC (n := 1) (rest := [.ref x66, .ref x61]) (n0 := 67) hx hb hml hts hown hNw hao hA G [.int (iz 100)] (c4_init l w _ _ _ 66 100 67 x66 a66 rfl (by decide +kernel) rfl (by decide) (i := 100) rfl (show _ = WL105 from rfl)) rfl wm_103 wm_46 wm_22 wm_47 rfl ⟨by decide +kernel, by decide +kernel, by decide +kernel⟩ ⟨rfl, rfl, (Nat.le_of_ble_eq_true rfl), (Nat.le_of_ble_eq_true rfl)⟩ rfl hl.1 (Nat.le_of_ble_eq_true rfl) rfl dX3_init_37 ⟨(Nat.le_of_ble_eq_true rfl), (Nat.le_of_ble_eq_true rfl)⟩ (fun g H locs hg G => ?_)
  have a61 := (hg 61 (Nat.le_of_ble_eq_true rfl)).trans a61
  have a1 := (hg 1 (Nat.le_of_ble_eq_true rfl)).trans a1
  have a52 := (hg 52 (Nat.le_of_ble_eq_true rfl)).trans a52
  have a62 := (hg 62 (Nat.le_of_ble_eq_true rfl)).trans a62
  have a64 := (hg 64 (Nat.le_of_ble_eq_true rfl)).trans a64
  have a66 := (hg 66 (Nat.le_of_ble_eq_true rfl)).trans a66
  have E : ∀ k, k < 62 → g k = g0 k := fun k hk => (hg k (Nat.lt_of_lt_of_le hk (Nat.le_of_ble_eq_true rfl))).trans (E k hk)
  refine W.widen (k := 6) (n := 303) (Nat.le_of_ble_eq_true rfl) (Nat.le_of_ble_eq_true rfl) ?_
  refine g_putF (k := 61) (ci := 3) (cs := [2, 2, 65, 67, 2, 2, 2, 2, 2, 2, 2, 0, 0, 0, 0, 0]) hx hb hts hown 4 66 inlX3 tyX3 tyX3_ok nmX3 G rfl rfl (by decide) (by decide) wm_89 rfl hin rfl rfl rfl dX3_init_40 a61 a66 (show _ = WL106 from rfl) (fun H locs G => ?_)
  refine lv_aload_n hx hb dX3_init_43 rfl (lv_at hl 0 rfl) ?_
  refine g_newO (n := 68) (ci := 4) (C := RX4) (T := TX4) (N := 1) hx hb hts hown [2] inlX4 tyX4 tyX4_ok G hA rfl (by decide +kernel) rfl (fun j hj => by rcases (show j = 0 by omega) with rfl <;> rfl) (by decide) wm_86 wm_21 wm_22 (Nat.le_of_ble_eq_true rfl) (Nat.le_of_ble_eq_true rfl) dX3_init_44 (show _ = WL107 from rfl) (fun g x68 H a68 hg G => ?_)
  have a61 := (hg 61 (Nat.le_of_ble_eq_true rfl)).trans a61
  have a1 := (hg 1 (Nat.le_of_ble_eq_true rfl)).trans a1
  have a52 := (hg 52 (Nat.le_of_ble_eq_true rfl)).trans a52
  have a62 := (hg 62 (Nat.le_of_ble_eq_true rfl)).trans a62
  have a64 := (hg 64 (Nat.le_of_ble_eq_true rfl)).trans a64
  have a66 := (hg 66 (Nat.le_of_ble_eq_true rfl)).trans a66
  have E : ∀ k, k < 62 → g k = g0 k := fun k hk => (hg k (Nat.lt_of_lt_of_le hk (Nat.le_of_ble_eq_true rfl))).trans (E k hk)
  refine W.widen (k := 7) (n := 304) (Nat.le_of_ble_eq_true rfl) (Nat.le_of_ble_eq_true rfl) ?_
  refine lv_dup hx hb dX3_init_47 rfl ?_
  refine lv_bipush (v := iz 100) hx hb dX3_init_48 (by decide +kernel) ?_
  refine g_callC (n := 1) (rest := [.ref x68, .ref x61]) (n0 := 69) hx hb hml hts hown hNw hao hA G [.int (iz 100)] (c4_init l w _ _ _ 68 100 69 x68 a68 rfl (by decide +kernel) rfl (by decide) (i := 100) rfl (show _ = WL108 from rfl)) rfl wm_103 wm_46 wm_22 wm_47 rfl ⟨by decide +kernel, by decide +kernel, by decide +kernel⟩ ⟨rfl, rfl, (Nat.le_of_ble_eq_true rfl), (Nat.le_of_ble_eq_true rfl)⟩ rfl hl.1 (Nat.le_of_ble_eq_true rfl) rfl dX3_init_50 ⟨(Nat.le_of_ble_eq_true rfl), (Nat.le_of_ble_eq_true rfl)⟩ (fun g H locs hg G => ?_)
  have a61 := (hg 61 (Nat.le_of_ble_eq_true rfl)).trans a61
  have a1 := (hg 1 (Nat.le_of_ble_eq_true rfl)).trans a1
  have a52 := (hg 52 (Nat.le_of_ble_eq_true rfl)).trans a52
  have a62 := (hg 62 (Nat.le_of_ble_eq_true rfl)).trans a62
  have a64 := (hg 64 (Nat.le_of_ble_eq_true rfl)).trans a64
  have a66 := (hg 66 (Nat.le_of_ble_eq_true rfl)).trans a66
  have a68 := (hg 68 (Nat.le_of_ble_eq_true rfl)).trans a68
  have E : ∀ k, k < 62 → g k = g0 k := fun k hk => (hg k (Nat.lt_of_lt_of_le hk (Nat.le_of_ble_eq_true rfl))).trans (E k hk)
  refine W.widen (k := 8) (n := 404) (Nat.le_of_ble_eq_true rfl) (Nat.le_of_ble_eq_true rfl) ?_
  refine g_putF (k := 61) (ci := 3) (cs := [2, 2, 65, 67, 69, 2, 2, 2, 2, 2, 2, 0, 0, 0, 0, 0]) hx hb hts hown 5 68 inlX3 tyX3 tyX3_ok nmX3 G rfl rfl (by decide) (by decide) wm_90 rfl hin rfl rfl rfl dX3_init_53 a61 a68 (show _ = WL109 from rfl) (fun H locs G => ?_)
  refine lv_aload_n hx hb dX3_init_56 rfl (lv_at hl 0 rfl) ?_
  refine g_newO (n := 70) (ci := 4) (C := RX4) (T := TX4) (N := 1) hx hb hts hown [2] inlX4 tyX4 tyX4_ok G hA rfl (by decide +kernel) rfl (fun j hj => by rcases (show j = 0 by omega) with rfl <;> rfl) (by decide) wm_86 wm_21 wm_22 (Nat.le_of_ble_eq_true rfl) (Nat.le_of_ble_eq_true rfl) dX3_init_57 (show _ = WL110 from rfl) (fun g x70 H a70 hg G => ?_)
  have a61 := (hg 61 (Nat.le_of_ble_eq_true rfl)).trans a61
  have a1 := (hg 1 (Nat.le_of_ble_eq_true rfl)).trans a1
  have a52 := (hg 52 (Nat.le_of_ble_eq_true rfl)).trans a52
  have a62 := (hg 62 (Nat.le_of_ble_eq_true rfl)).trans a62
  have a64 := (hg 64 (Nat.le_of_ble_eq_true rfl)).trans a64
  have a66 := (hg 66 (Nat.le_of_ble_eq_true rfl)).trans a66
  have a68 := (hg 68 (Nat.le_of_ble_eq_true rfl)).trans a68
  have E : ∀ k, k < 62 → g k = g0 k := fun k hk => (hg k (Nat.lt_of_lt_of_le hk (Nat.le_of_ble_eq_true rfl))).trans (E k hk)
  refine W.widen (k := 9) (n := 405) (Nat.le_of_ble_eq_true rfl) (Nat.le_of_ble_eq_true rfl) ?_
  refine lv_dup hx hb dX3_init_60 rfl ?_
  refine lv_bipush (v := iz 100) hx hb dX3_init_61 (by decide +kernel) ?_
  refine g_callC (n := 1) (rest := [.ref x70, .ref x61]) (n0 := 71) hx hb hml hts hown hNw hao hA G [.int (iz 100)] (c4_init l w _ _ _ 70 100 71 x70 a70 rfl (by decide +kernel) rfl (by decide) (i := 100) rfl (show _ = WL111 from rfl)) rfl wm_103 wm_46 wm_22 wm_47 rfl ⟨by decide +kernel, by decide +kernel, by decide +kernel⟩ ⟨rfl, rfl, (Nat.le_of_ble_eq_true rfl), (Nat.le_of_ble_eq_true rfl)⟩ rfl hl.1 (Nat.le_of_ble_eq_true rfl) rfl dX3_init_63 ⟨(Nat.le_of_ble_eq_true rfl), (Nat.le_of_ble_eq_true rfl)⟩ (fun g H locs hg G => ?_)
  have a61 := (hg 61 (Nat.le_of_ble_eq_true rfl)).trans a61
  have a1 := (hg 1 (Nat.le_of_ble_eq_true rfl)).trans a1
  have a52 := (hg 52 (Nat.le_of_ble_eq_true rfl)).trans a52
  have a62 := (hg 62 (Nat.le_of_ble_eq_true rfl)).trans a62
  have a64 := (hg 64 (Nat.le_of_ble_eq_true rfl)).trans a64
  have a66 := (hg 66 (Nat.le_of_ble_eq_true rfl)).trans a66
  have a68 := (hg 68 (Nat.le_of_ble_eq_true rfl)).trans a68
  have a70 := (hg 70 (Nat.le_of_ble_eq_true rfl)).trans a70
  have E : ∀ k, k < 62 → g k = g0 k := fun k hk => (hg k (Nat.lt_of_lt_of_le hk (Nat.le_of_ble_eq_true rfl))).trans (E k hk)
  refine W.widen (k := 10) (n := 505) (Nat.le_of_ble_eq_true rfl) (Nat.le_of_ble_eq_true rfl) ?_
  refine g_putF (k := 61) (ci := 3) (cs := [2, 2, 65, 67, 69, 71, 2, 2, 2, 2, 2, 0, 0, 0, 0, 0]) hx hb hts hown 6 70 inlX3 tyX3 tyX3_ok nmX3 G rfl rfl (by decide) (by decide) wm_91 rfl hin rfl rfl rfl dX3_init_66 a61 a70 (show _ = WL112 from rfl) (fun H locs G => ?_)
  refine lv_aload_n hx hb dX3_init_69 rfl (lv_at hl 0 rfl) ?_
  refine g_newO (n := 72) (ci := 4) (C := RX4) (T := TX4) (N := 1) hx hb hts hown [2] inlX4 tyX4 tyX4_ok G hA rfl (by decide +kernel) rfl (fun j hj => by rcases (show j = 0 by omega) with rfl <;> rfl) (by decide) wm_86 wm_21 wm_22 (Nat.le_of_ble_eq_true rfl) (Nat.le_of_ble_eq_true rfl) dX3_init_70 (show _ = WL113 from rfl) (fun g x72 H a72 hg G => ?_)
  have a61 := (hg 61 (Nat.le_of_ble_eq_true rfl)).trans a61
  have a1 := (hg 1 (Nat.le_of_ble_eq_true rfl)).trans a1
  have a52 := (hg 52 (Nat.le_of_ble_eq_true rfl)).trans a52
  have a62 := (hg 62 (Nat.le_of_ble_eq_true rfl)).trans a62
  have a64 := (hg 64 (Nat.le_of_ble_eq_true rfl)).trans a64
  have a66 := (hg 66 (Nat.le_of_ble_eq_true rfl)).trans a66
  have a68 := (hg 68 (Nat.le_of_ble_eq_true rfl)).trans a68
  have a70 := (hg 70 (Nat.le_of_ble_eq_true rfl)).trans a70
  have E : ∀ k, k < 62 → g k = g0 k := fun k hk => (hg k (Nat.lt_of_lt_of_le hk (Nat.le_of_ble_eq_true rfl))).trans (E k hk)
  refine W.widen (k := 11) (n := 506) (Nat.le_of_ble_eq_true rfl) (Nat.le_of_ble_eq_true rfl) ?_
  refine lv_dup hx hb dX3_init_73 rfl ?_
  refine lv_bipush (v := iz 100) hx hb dX3_init_74 (by decide +kernel) ?_
  refine g_callC (n := 1) (rest := [.ref x72, .ref x61]) (n0 := 73) hx hb hml hts hown hNw hao hA G [.int (iz 100)] (c4_init l w _ _ _ 72 100 73 x72 a72 rfl (by decide +kernel) rfl (by decide) (i := 100) rfl (show _ = WL114 from rfl)) rfl wm_103 wm_46 wm_22 wm_47 rfl ⟨by decide +kernel, by decide +kernel, by decide +kernel⟩ ⟨rfl, rfl, (Nat.le_of_ble_eq_true rfl), (Nat.le_of_ble_eq_true rfl)⟩ rfl hl.1 (Nat.le_of_ble_eq_true rfl) rfl dX3_init_76 ⟨(Nat.le_of_ble_eq_true rfl), (Nat.le_of_ble_eq_true rfl)⟩ (fun g H locs hg G => ?_)
  have a61 := (hg 61 (Nat.le_of_ble_eq_true rfl)).trans a61
  have a1 := (hg 1 (Nat.le_of_ble_eq_true rfl)).trans a1
  have a52 := (hg 52 (Nat.le_of_ble_eq_true rfl)).trans a52
  have a62 := (hg 62 (Nat.le_of_ble_eq_true rfl)).trans a62
  have a64 := (hg 64 (Nat.le_of_ble_eq_true rfl)).trans a64
  have a66 := (hg 66 (Nat.le_of_ble_eq_true rfl)).trans a66
  have a68 := (hg 68 (Nat.le_of_ble_eq_true rfl)).trans a68
  have a70 := (hg 70 (Nat.le_of_ble_eq_true rfl)).trans a70
  have a72 := (hg 72 (Nat.le_of_ble_eq_true rfl)).trans a72
  have E : ∀ k, k < 62 → g k = g0 k := fun k hk => (hg k (Nat.lt_of_lt_of_le hk (Nat.le_of_ble_eq_true rfl))).trans (E k hk)
  refine W.widen (k := 12) (n := 606) (Nat.le_of_ble_eq_true rfl) (Nat.le_of_ble_eq_true rfl) ?_
  refine g_putF (k := 61) (ci := 3) (cs := [2, 2, 65, 67, 69, 71, 73, 2, 2, 2, 2, 0, 0, 0, 0, 0]) hx hb hts hown 7 72 inlX3 tyX3 tyX3_ok nmX3 G rfl rfl (by decide) (by decide) wm_92 rfl hin rfl rfl rfl dX3_init_79 a61 a72 (show _ = WL115 from rfl) (fun H locs G => ?_)
  refine lv_aload_n hx hb dX3_init_82 rfl (lv_at hl 0 rfl) ?_
  refine g_newO (n := 74) (ci := 4) (C := RX4) (T := TX4) (N := 1) hx hb hts hown [2] inlX4 tyX4 tyX4_ok G hA rfl (by decide +kernel) rfl (fun j hj => by rcases (show j = 0 by omega) with rfl <;> rfl) (by decide) wm_86 wm_21 wm_22 (Nat.le_of_ble_eq_true rfl) (Nat.le_of_ble_eq_true rfl) dX3_init_83 (show _ = WL116 from rfl) (fun g x74 H a74 hg G => ?_)
  have a61 := (hg 61 (Nat.le_of_ble_eq_true rfl)).trans a61
  have a1 := (hg 1 (Nat.le_of_ble_eq_true rfl)).trans a1
  have a52 := (hg 52 (Nat.le_of_ble_eq_true rfl)).trans a52
  have a62 := (hg 62 (Nat.le_of_ble_eq_true rfl)).trans a62
  have a64 := (hg 64 (Nat.le_of_ble_eq_true rfl)).trans a64
  have a66 := (hg 66 (Nat.le_of_ble_eq_true rfl)).trans a66
  have a68 := (hg 68 (Nat.le_of_ble_eq_true rfl)).trans a68
  have a70 := (hg 70 (Nat.le_of_ble_eq_true rfl)).trans a70
  have a72 := (hg 72 (Nat.le_of_ble_eq_true rfl)).trans a72
  have E : ∀ k, k < 62 → g k = g0 k := fun k hk => (hg k (Nat.lt_of_lt_of_le hk (Nat.le_of_ble_eq_true rfl))).trans (E k hk)
  refine W.widen (k := 13) (n := 607) (Nat.le_of_ble_eq_true rfl) (Nat.le_of_ble_eq_true rfl) ?_
  refine lv_dup hx hb dX3_init_86 rfl ?_
  refine lv_bipush (v := iz 100) hx hb dX3_init_87 (by decide +kernel) ?_
  refine g_callC (n := 1) (rest := [.ref x74, .ref x61]) (n0 := 75) hx hb hml hts hown hNw hao hA G [.int (iz 100)] (c4_init l w _ _ _ 74 100 75 x74 a74 rfl (by decide +kernel) rfl (by decide) (i := 100) rfl (show _ = WL117 from rfl)) rfl wm_103 wm_46 wm_22 wm_47 rfl ⟨by decide +kernel, by decide +kernel, by decide +kernel⟩ ⟨rfl, rfl, (Nat.le_of_ble_eq_true rfl), (Nat.le_of_ble_eq_true rfl)⟩ rfl hl.1 (Nat.le_of_ble_eq_true rfl) rfl dX3_init_89 ⟨(Nat.le_of_ble_eq_true rfl), (Nat.le_of_ble_eq_true rfl)⟩ (fun g H locs hg G => ?_)
  have a61 := (hg 61 (Nat.le_of_ble_eq_true rfl)).trans a61
  have a1 := (hg 1 (Nat.le_of_ble_eq_true rfl)).trans a1
  have a52 := (hg 52 (Nat.le_of_ble_eq_true rfl)).trans a52
  have a62 := (hg 62 (Nat.le_of_ble_eq_true rfl)).trans a62
  have a64 := (hg 64 (Nat.le_of_ble_eq_true rfl)).trans a64
  have a66 := (hg 66 (Nat.le_of_ble_eq_true rfl)).trans a66
  have a68 := (hg 68 (Nat.le_of_ble_eq_true rfl)).trans a68
  have a70 := (hg 70 (Nat.le_of_ble_eq_true rfl)).trans a70
  have a72 := (hg 72 (Nat.le_of_ble_eq_true rfl)).trans a72
  have a74 := (hg 74 (Nat.le_of_ble_eq_true rfl)).trans a74
  have E : ∀ k, k < 62 → g k = g0 k := fun k hk => (hg k (Nat.lt_of_lt_of_le hk (Nat.le_of_ble_eq_true rfl))).trans (E k hk)
  refine W.widen (k := 14) (n := 707) (Nat.le_of_ble_eq_true rfl) (Nat.le_of_ble_eq_true rfl) ?_
  refine g_putF (k := 61) (ci := 3) (cs := [2, 2, 65, 67, 69, 71, 73, 75, 2, 2, 2, 0, 0, 0, 0, 0]) hx hb hts hown 8 74 inlX3 tyX3 tyX3_ok nmX3 G rfl rfl (by decide) (by decide) wm_93 rfl hin rfl rfl rfl dX3_init_92 a61 a74 (show _ = WL118 from rfl) (fun H locs G => ?_)
  refine lv_aload_n hx hb dX3_init_95 rfl (lv_at hl 0 rfl) ?_
  refine g_newO (n := 76) (ci := 4) (C := RX4) (T := TX4) (N := 1) hx hb hts hown [2] inlX4 tyX4 tyX4_ok G hA rfl (by decide +kernel) rfl (fun j hj => by rcases (show j = 0 by omega) with rfl <;> rfl) (by decide) wm_86 wm_21 wm_22 (Nat.le_of_ble_eq_true rfl) (Nat.le_of_ble_eq_true rfl) dX3_init_96 (show _ = WL119 from rfl) (fun g x76 H a76 hg G => ?_)
  have a61 := (hg 61 (Nat.le_of_ble_eq_true rfl)).trans a61
  have a1 := (hg 1 (Nat.le_of_ble_eq_true rfl)).trans a1
  have a52 := (hg 52 (Nat.le_of_ble_eq_true rfl)).trans a52
  have a62 := (hg 62 (Nat.le_of_ble_eq_true rfl)).trans a62
  have a64 := (hg 64 (Nat.le_of_ble_eq_true rfl)).trans a64
  have a66 := (hg 66 (Nat.le_of_ble_eq_true rfl)).trans a66
  have a68 := (hg 68 (Nat.le_of_ble_eq_true rfl)).trans a68
  have a70 := (hg 70 (Nat.le_of_ble_eq_true rfl)).trans a70
  have a72 := (hg 72 (Nat.le_of_ble_eq_true rfl)).trans a72
  have a74 := (hg 74 (Nat.le_of_ble_eq_true rfl)).trans a74
  have E : ∀ k, k < 62 → g k = g0 k := fun k hk => (hg k (Nat.lt_of_lt_of_le hk (Nat.le_of_ble_eq_true rfl))).trans (E k hk)
  refine W.widen (k := 15) (n := 708) (Nat.le_of_ble_eq_true rfl) (Nat.le_of_ble_eq_true rfl) ?_
  refine lv_dup hx hb dX3_init_99 rfl ?_
  refine lv_bipush (v := iz 100) hx hb dX3_init_100 (by decide +kernel) ?_
  refine g_callC (n := 1) (rest := [.ref x76, .ref x61]) (n0 := 77) hx hb hml hts hown hNw hao hA G [.int (iz 100)] (c4_init l w _ _ _ 76 100 77 x76 a76 rfl (by decide +kernel) rfl (by decide) (i := 100) rfl (show _ = WL120 from rfl)) rfl wm_103 wm_46 wm_22 wm_47 rfl ⟨by decide +kernel, by decide +kernel, by decide +kernel⟩ ⟨rfl, rfl, (Nat.le_of_ble_eq_true rfl), (Nat.le_of_ble_eq_true rfl)⟩ rfl hl.1 (Nat.le_of_ble_eq_true rfl) rfl dX3_init_102 ⟨(Nat.le_of_ble_eq_true rfl), (Nat.le_of_ble_eq_true rfl)⟩ (fun g H locs hg G => ?_)
  have a61 := (hg 61 (Nat.le_of_ble_eq_true rfl)).trans a61
  have a1 := (hg 1 (Nat.le_of_ble_eq_true rfl)).trans a1
  have a52 := (hg 52 (Nat.le_of_ble_eq_true rfl)).trans a52
  have a62 := (hg 62 (Nat.le_of_ble_eq_true rfl)).trans a62
  have a64 := (hg 64 (Nat.le_of_ble_eq_true rfl)).trans a64
  have a66 := (hg 66 (Nat.le_of_ble_eq_true rfl)).trans a66
  have a68 := (hg 68 (Nat.le_of_ble_eq_true rfl)).trans a68
  have a70 := (hg 70 (Nat.le_of_ble_eq_true rfl)).trans a70
  have a72 := (hg 72 (Nat.le_of_ble_eq_true rfl)).trans a72
  have a74 := (hg 74 (Nat.le_of_ble_eq_true rfl)).trans a74
  have a76 := (hg 76 (Nat.le_of_ble_eq_true rfl)).trans a76
  have E : ∀ k, k < 62 → g k = g0 k := fun k hk => (hg k (Nat.lt_of_lt_of_le hk (Nat.le_of_ble_eq_true rfl))).trans (E k hk)
  refine W.widen (k := 16) (n := 808) (Nat.le_of_ble_eq_true rfl) (Nat.le_of_ble_eq_true rfl) ?_
  refine g_putF (k := 61) (ci := 3) (cs := [2, 2, 65, 67, 69, 71, 73, 75, 77, 2, 2, 0, 0, 0, 0, 0]) hx hb hts hown 9 76 inlX3 tyX3 tyX3_ok nmX3 G rfl rfl (by decide) (by decide) wm_94 rfl hin rfl rfl rfl dX3_init_105 a61 a76 (show _ = WL121 from rfl) (fun H locs G => ?_)
  refine lv_aload_n hx hb dX3_init_108 rfl (lv_at hl 0 rfl) ?_
  refine g_newO (n := 78) (ci := 4) (C := RX4) (T := TX4) (N := 1) hx hb hts hown [2] inlX4 tyX4 tyX4_ok G hA rfl (by decide +kernel) rfl (fun j hj => by rcases (show j = 0 by omega) with rfl <;> rfl) (by decide) wm_86 wm_21 wm_22 (Nat.le_of_ble_eq_true rfl) (Nat.le_of_ble_eq_true rfl) dX3_init_109 (show _ = WL122 from rfl) (fun g x78 H a78 hg G => ?_)
  have a61 := (hg 61 (Nat.le_of_ble_eq_true rfl)).trans a61
  have a1 := (hg 1 (Nat.le_of_ble_eq_true rfl)).trans a1
  have a52 := (hg 52 (Nat.le_of_ble_eq_true rfl)).trans a52
  have a62 := (hg 62 (Nat.le_of_ble_eq_true rfl)).trans a62
  have a64 := (hg 64 (Nat.le_of_ble_eq_true rfl)).trans a64
  have a66 := (hg 66 (Nat.le_of_ble_eq_true rfl)).trans a66
  have a68 := (hg 68 (Nat.le_of_ble_eq_true rfl)).trans a68
  have a70 := (hg 70 (Nat.le_of_ble_eq_true rfl)).trans a70
  have a72 := (hg 72 (Nat.le_of_ble_eq_true rfl)).trans a72
  have a74 := (hg 74 (Nat.le_of_ble_eq_true rfl)).trans a74
  have a76 := (hg 76 (Nat.le_of_ble_eq_true rfl)).trans a76
  have E : ∀ k, k < 62 → g k = g0 k := fun k hk => (hg k (Nat.lt_of_lt_of_le hk (Nat.le_of_ble_eq_true rfl))).trans (E k hk)
  refine W.widen (k := 17) (n := 809) (Nat.le_of_ble_eq_true rfl) (Nat.le_of_ble_eq_true rfl) ?_
  refine lv_dup hx hb dX3_init_112 rfl ?_
  refine lv_bipush (v := iz 100) hx hb dX3_init_113 (by decide +kernel) ?_
  refine g_callC (n := 1) (rest := [.ref x78, .ref x61]) (n0 := 79) hx hb hml hts hown hNw hao hA G [.int (iz 100)] (c4_init l w _ _ _ 78 100 79 x78 a78 rfl (by decide +kernel) rfl (by decide) (i := 100) rfl (show _ = WL123 from rfl)) rfl wm_103 wm_46 wm_22 wm_47 rfl ⟨by decide +kernel, by decide +kernel, by decide +kernel⟩ ⟨rfl, rfl, (Nat.le_of_ble_eq_true rfl), (Nat.le_of_ble_eq_true rfl)⟩ rfl hl.1 (Nat.le_of_ble_eq_true rfl) rfl dX3_init_115 ⟨(Nat.le_of_ble_eq_true rfl), (Nat.le_of_ble_eq_true rfl)⟩ (fun g H locs hg G => ?_)
  have a61 := (hg 61 (Nat.le_of_ble_eq_true rfl)).trans a61
  have a1 := (hg 1 (Nat.le_of_ble_eq_true rfl)).trans a1
  have a52 := (hg 52 (Nat.le_of_ble_eq_true rfl)).trans a52
  have a62 := (hg 62 (Nat.le_of_ble_eq_true rfl)).trans a62
  have a64 := (hg 64 (Nat.le_of_ble_eq_true rfl)).trans a64
  have a66 := (hg 66 (Nat.le_of_ble_eq_true rfl)).trans a66
  have a68 := (hg 68 (Nat.le_of_ble_eq_true rfl)).trans a68
  have a70 := (hg 70 (Nat.le_of_ble_eq_true rfl)).trans a70
  have a72 := (hg 72 (Nat.le_of_ble_eq_true rfl)).trans a72
  have a74 := (hg 74 (Nat.le_of_ble_eq_true rfl)).trans a74
  have a76 := (hg 76 (Nat.le_of_ble_eq_true rfl)).trans a76
  have a78 := (hg 78 (Nat.le_of_ble_eq_true rfl)).trans a78
  have E : ∀ k, k < 62 → g k = g0 k := fun k hk => (hg k (Nat.lt_of_lt_of_le hk (Nat.le_of_ble_eq_true rfl))).trans (E k hk)
  refine W.widen (k := 18) (n := 909) (Nat.le_of_ble_eq_true rfl) (Nat.le_of_ble_eq_true rfl) ?_
  refine g_putF (k := 61) (ci := 3) (cs := [2, 2, 65, 67, 69, 71, 73, 75, 77, 79, 2, 0, 0, 0, 0, 0]) hx hb hts hown 10 78 inlX3 tyX3 tyX3_ok nmX3 G rfl rfl (by decide) (by decide) wm_95 rfl hin rfl rfl rfl dX3_init_118 a61 a78 (show _ = WL124 from rfl) (fun H locs G => ?_)
  refine lv_aload_n hx hb dX3_init_121 rfl (lv_at hl 0 rfl) ?_
  refine lv_iconst (v := iz 0) hx hb dX3_init_122 rfl ?_
  refine g_putA (k := 61) (ci := 3) (cs := [2, 2, 65, 67, 69, 71, 73, 75, 77, 79, 81, 0, 0, 0, 0, 0]) hx hb hts hown 11 inlX3 tyX3 tyX3_ok nmX3 G rfl rfl (by decide) rfl wm_96 rfl rfl rfl dX3_init_123 a61 (fun H locs G => ?_)
  refine lv_aload_n hx hb dX3_init_126 rfl (lv_at hl 0 rfl) ?_
  refine lv_iconst (v := iz 0) hx hb dX3_init_127 rfl ?_
  refine g_putA (k := 61) (ci := 3) (cs := [2, 2, 65, 67, 69, 71, 73, 75, 77, 79, 81, 0, 0, 0, 0, 0]) hx hb hts hown 12 inlX3 tyX3 tyX3_ok nmX3 G rfl rfl (by decide) rfl wm_97 rfl rfl rfl dX3_init_128 a61 (fun H locs G => ?_)
  refine lv_aload_n hx hb dX3_init_131 rfl (lv_at hl 0 rfl) ?_
  refine lv_iconst (v := iz 0) hx hb dX3_init_132 rfl ?_
  refine g_putA (k := 61) (ci := 3) (cs := [2, 2, 65, 67, 69, 71, 73, 75, 77, 79, 81, 0, 0, 0, 0, 0]) hx hb hts hown 13 inlX3 tyX3 tyX3_ok nmX3 G rfl rfl (by decide) rfl wm_98 rfl rfl rfl dX3_init_133 a61 (fun H locs G => ?_)
  refine lv_aload_n hx hb dX3_init_136 rfl (lv_at hl 0 rfl) ?_
  refine lv_iconst (v := iz 0) hx hb dX3_init_137 rfl ?_
  refine g_putA (k := 61) (ci := 3) (cs := [2, 2, 65, 67, 69, 71, 73, 75, 77, 79, 81, 0, 0, 0, 0, 0]) hx hb hts hown 14 inlX3 tyX3 tyX3_ok nmX3 G rfl rfl (by decide) rfl wm_99 rfl rfl rfl dX3_init_138 a61 (fun H locs G => ?_)
  refine lv_aload_n hx hb dX3_init_141 rfl (lv_at hl 0 rfl) ?_
  refine lv_iconst (v := iz 0) hx hb dX3_init_142 rfl ?_
  refine g_putA (k := 61) (ci := 3) (cs := [2, 2, 65, 67, 69, 71, 73, 75, 77, 79, 81, 0, 0, 0, 0, 0]) hx hb hts hown 15 inlX3 tyX3 tyX3_ok nmX3 G rfl rfl (by decide) rfl wm_100 rfl rfl rfl dX3_init_143 a61 (fun H locs G => ?_)
  refine lv_aload_n hx hb dX3_init_146 rfl (lv_at hl 0 rfl) ?_
  refine lv_aload_n hx hb dX3_init_147 rfl (lv_at hl 1 rfl) ?_
  refine g_putF (k := 61) (ci := 3) (cs := [2, 2, 65, 67, 69, 71, 73, 75, 77, 79, 81, 0, 0, 0, 0, 0]) hx hb hts hown 0 1 inlX3 tyX3 tyX3_ok nmX3 G rfl rfl (by decide) (by decide) wm_101 rfl hin rfl rfl rfl dX3_init_148 a61 a1 (show _ = WL125 from rfl) (fun H locs G => ?_)
  refine lv_aload_n hx hb dX3_init_151 rfl (lv_at hl 0 rfl) ?_
  refine lv_aload_n hx hb dX3_init_152 rfl (lv_at hl 2 rfl) ?_
  refine g_putF (k := 61) (ci := 3) (cs := [4, 2, 65, 67, 69, 71, 73, 75, 77, 79, 81, 0, 0, 0, 0, 0]) hx hb hts hown 1 52 inlX3 tyX3 tyX3_ok nmX3 G rfl rfl (by decide) (by decide) wm_102 rfl hin rfl rfl rfl dX3_init_153 a61 a52 (show _ = WL126 from rfl) (fun H locs G => ?_)
  exact g_cret (n0 := 62) hx hb hr hlk rfl hz E G (Nat.le_of_ble_eq_true rfl) (Nat.le_of_ble_eq_true rfl) dX3_init_156
def WL127 : List Sh := [(1, 6, [4, 13, 51, 53, 55, 64, 0, 0]), (1, 5, [5, 7, 9, 11, 0]), (1, 4, [6]), (0, 100, []), (1, 4, [8]), (0, 6, []), (1, 4, [10]), (0, 48, []), (1, 4, [12]), (0, 6, []), (1, 1, [14, 0, 0]), (2, 4, [15, 24, 33, 42]), (1, 5, [16, 18, 20, 22, 0]), (1, 4, [17]), (0, 100, []), (1, 4, [19]), (0, 6, []), (1, 4, [21]), (0, 48, []), (1, 4, [23]), (0, 6, []), (1, 5, [25, 27, 29, 31, 0]), (1, 4, [26]), (0, 100, []), (1, 4, [28]), (0, 6, []), (1, 4, [30]), (0, 48, []), (1, 4, [32]), (0, 6, []), (1, 5, [34, 36, 38, 40, 0]), (1, 4, [35]), (0, 100, []), (1, 4, [37]), (0, 6, []), (1, 4, [39]), (0, 48, []), (1, 4, [41]), (0, 6, []), (1, 5, [43, 45, 47, 49, 0]), (1, 4, [44]), (0, 100, []), (1, 4, [46]), (0, 6, []), (1, 4, [48]), (0, 48, []), (1, 4, [50]), (0, 6, []), (1, 4, [52]), (0, 8, []), (1, 4, [54]), (0, 3, []), (1, 2, [4, 56, 58, 60, 62]), (1, 4, [57]), (0, 101, []), (1, 4, [59]), (0, 101, []), (1, 4, [61]), (0, 101, []), (1, 0, [63]), (0, 5454, []), (1, 3, [4, 55, 65, 67, 69, 71, 73, 75, 77, 79, 81, 0, 0, 0, 0, 0]), (1, 4, [66]), (0, 100, []), (1, 4, [68]), (0, 100, []), (1, 4, [70]), (0, 100, []), (1, 4, [72]), (0, 100, []), (1, 4, [74]), (0, 100, []), (1, 4, [76]), (0, 100, []), (1, 4, [78]), (0, 100, []), (1, 4, [80]), (0, 100, []), (1, 4, [82]), (0, 100, [])]
def sg_Grammar_0 (σ : St) : St := (up (up (sg_Nodes_61 (ur (sg_Matcher_52 (ur (ur (ur (ur (ur (sg_History_10 (ur (sg_State_1 (ur σ 1 (fun _ => 0))) 10 (fun _ => 0))) 48 (fun _ => 0)) 49 (fun _ => 0)) 50 (fun _ => 0)) 51 (fun _ => 0)) 52 (fun _ => 0))) 61 (fun _ => 0))) 0 6 0) 0 7 1)
abbrev rc_Grammar_0 : Room := ({ frames := 4, cells := 79, slots := 7556, locals := 73 } : Room)
set_option maxHeartbeats 4000000 in
set_option maxRecDepth 100000 in
theorem cc_Grammar_0 (l : Launch) (w : GW) (g0 : Nat → Nat) (σ : St) (sz : Nat) (x0 : Nat) (a0 : g0 0 = x0) : Met l yX6_init (Cond.code yX6_init cX6_init 1 none :: wsL_law) rc_Grammar_0 (gPcC (gw w g0) WL0 σ sz [.ref x0]) (gQc w g0 WL0.length sz WL127 (sg_Grammar_0 σ)) 79 7556 (gA (gw w g0) WL0.length sz) := by
  refine g_metC (by decide) [.ref x0] (Nat.le_of_ble_eq_true rfl) ?_
  intro p e s m below meth c ls hz C0 hin hao hl G
  obtain ⟨hx, hb, hr, hml, hown, hts, hlk, hNw, hA⟩ := id C0
  have hown : s.vm.findClass RX6 = some m.cls := hown
  have hl : lv_has ls 1 [(0, .ref x0)] := hl
  have E : ∀ k, k < 1 → g0 k = g0 k := fun _ _ => rfl
  refine lv_aload_n hx hb dX6_init_0 rfl (lv_at hl 0 rfl) ?_
  refine g_objI hx hb hml hts hown wm_9 wm_10 wm_11 hl.1 (Nat.le_of_ble_eq_true rfl) (Nat.le_of_ble_eq_true rfl) dX6_init_1 ?_
  refine lv_aload_n hx hb dX6_init_4 rfl (lv_at hl 0 rfl) ?_
  refine g_newO (n := 1) (ci := 5) (C := RX5) (T := TX5) (N := 5) hx hb hts hown [2, 2, 2, 2, 0] inlX5 tyX5 tyX5_ok G hA rfl (by decide +kernel) rfl (fun j hj => by rcases (show j = 0 ∨ j = 1 ∨ j = 2 ∨ j = 3 ∨ j = 4 by omega) with rfl | rfl | rfl | rfl | rfl <;> rfl) (by decide) wm_12 wm_13 wm_14 (Nat.le_of_ble_eq_true rfl) (Nat.le_of_ble_eq_true rfl) dX6_init_5 (show _ = WL1 from rfl) (fun g x1 H a1 hg G => ?_)
  have a0 := (hg 0 (Nat.le_of_ble_eq_true rfl)).trans a0
  have E : ∀ k, k < 1 → g k = g0 k := fun k hk => (hg k (Nat.lt_of_lt_of_le hk (Nat.le_of_ble_eq_true rfl))).trans (E k hk)
  refine W.widen (k := 1) (n := 5) (Nat.le_of_ble_eq_true rfl) (Nat.le_of_ble_eq_true rfl) ?_
  refine lv_dup hx hb dX6_init_8 rfl ?_
  refine g_callC (n := 0) (rest := [.ref x1, .ref x0]) (n0 := 2) hx hb hml hts hown hNw hao hA G [] (cc_State_1 l w _ _ _ x1 a1) rfl wm_35 wm_36 wm_14 wm_37 rfl ⟨by decide +kernel, by decide +kernel, by decide +kernel⟩ ⟨rfl, rfl, (Nat.le_of_ble_eq_true rfl), (Nat.le_of_ble_eq_true rfl)⟩ rfl hl.1 (Nat.le_of_ble_eq_true rfl) rfl dX6_init_9 ⟨(Nat.le_of_ble_eq_true rfl), (Nat.le_of_ble_eq_true rfl)⟩ (fun g H locs hg G => ?_)
  have a0 := (hg 0 (Nat.le_of_ble_eq_true rfl)).trans a0
  have a1 := (hg 1 (Nat.le_of_ble_eq_true rfl)).trans a1
  have E : ∀ k, k < 1 → g k = g0 k := fun k hk => (hg k (Nat.lt_of_lt_of_le hk (Nat.le_of_ble_eq_true rfl))).trans (E k hk)
  refine W.widen (k := 9) (n := 169) (Nat.le_of_ble_eq_true rfl) (Nat.le_of_ble_eq_true rfl) ?_
  refine g_putF (k := 0) (ci := 6) (cs := [2, 2, 2, 2, 2, 2, 0, 0]) hx hb hts hown 0 1 inlX6 tyX6 tyX6_ok nmX6 G rfl rfl (by decide) (by decide) wm_15 rfl hin rfl rfl rfl dX6_init_12 a0 a1 (show _ = WL14 from rfl) (fun H locs G => ?_)
  refine lv_aload_n hx hb dX6_init_15 rfl (lv_at hl 0 rfl) ?_
  refine g_newO (n := 10) (ci := 1) (C := RX1) (T := TX1) (N := 3) hx hb hts hown [2, 0, 0] inlX1 tyX1 tyX1_ok G hA rfl (by decide +kernel) rfl (fun j hj => by rcases (show j = 0 ∨ j = 1 ∨ j = 2 by omega) with rfl | rfl | rfl <;> rfl) (by decide) wm_16 wm_17 wm_18 (Nat.le_of_ble_eq_true rfl) (Nat.le_of_ble_eq_true rfl) dX6_init_16 (show _ = WL15 from rfl) (fun g x10 H a10 hg G => ?_)
  have a0 := (hg 0 (Nat.le_of_ble_eq_true rfl)).trans a0
  have a1 := (hg 1 (Nat.le_of_ble_eq_true rfl)).trans a1
  have E : ∀ k, k < 1 → g k = g0 k := fun k hk => (hg k (Nat.lt_of_lt_of_le hk (Nat.le_of_ble_eq_true rfl))).trans (E k hk)
  refine W.widen (k := 10) (n := 172) (Nat.le_of_ble_eq_true rfl) (Nat.le_of_ble_eq_true rfl) ?_
  refine lv_dup hx hb dX6_init_19 rfl ?_
  refine g_callCN (n := 0) (host := "IslandGrammar") (rest := [.ref x10, .ref x0]) (n0 := 11) hx hb hml hts hown hNw hao hA G [] (cc_History_10 l w _ _ _ x10 a10) rfl (List.mem_of_getElem? (i := 0) rfl) wm_55 wm_18 wm_56 rfl ⟨by decide +kernel, by decide +kernel, by decide +kernel⟩ ⟨rfl, rfl, (Nat.le_of_ble_eq_true rfl), (Nat.le_of_ble_eq_true rfl)⟩ rfl hl.1 (Nat.le_of_ble_eq_true rfl) rfl dX6_init_20 ⟨(Nat.le_of_ble_eq_true rfl), (Nat.le_of_ble_eq_true rfl)⟩ (fun g H locs hg G => ?_)
  have a0 := (hg 0 (Nat.le_of_ble_eq_true rfl)).trans a0
  have a1 := (hg 1 (Nat.le_of_ble_eq_true rfl)).trans a1
  have a10 := (hg 10 (Nat.le_of_ble_eq_true rfl)).trans a10
  have E : ∀ k, k < 1 → g k = g0 k := fun k hk => (hg k (Nat.lt_of_lt_of_le hk (Nat.le_of_ble_eq_true rfl))).trans (E k hk)
  refine W.widen (k := 47) (n := 852) (Nat.le_of_ble_eq_true rfl) (Nat.le_of_ble_eq_true rfl) ?_
  refine g_putF (k := 0) (ci := 6) (cs := [4, 2, 2, 2, 2, 2, 0, 0]) hx hb hts hown 1 10 inlX6 tyX6 tyX6_ok nmX6 G rfl rfl (by decide) (by decide) wm_19 rfl hin rfl rfl rfl dX6_init_23 a0 a10 (show _ = WL74 from rfl) (fun H locs G => ?_)
  refine lv_aload_n hx hb dX6_init_26 rfl (lv_at hl 0 rfl) ?_
  refine g_newO (n := 48) (ci := 4) (C := RX4) (T := TX4) (N := 1) hx hb hts hown [2] inlX4 tyX4 tyX4_ok G hA rfl (by decide +kernel) rfl (fun j hj => by rcases (show j = 0 by omega) with rfl <;> rfl) (by decide) wm_20 wm_21 wm_22 (Nat.le_of_ble_eq_true rfl) (Nat.le_of_ble_eq_true rfl) dX6_init_27 (show _ = WL75 from rfl) (fun g x48 H a48 hg G => ?_)
  have a0 := (hg 0 (Nat.le_of_ble_eq_true rfl)).trans a0
  have a1 := (hg 1 (Nat.le_of_ble_eq_true rfl)).trans a1
  have a10 := (hg 10 (Nat.le_of_ble_eq_true rfl)).trans a10
  have E : ∀ k, k < 1 → g k = g0 k := fun k hk => (hg k (Nat.lt_of_lt_of_le hk (Nat.le_of_ble_eq_true rfl))).trans (E k hk)
  refine W.widen (k := 48) (n := 853) (Nat.le_of_ble_eq_true rfl) (Nat.le_of_ble_eq_true rfl) ?_
  refine lv_dup hx hb dX6_init_30 rfl ?_
  refine lv_bipush (v := iz 8) hx hb dX6_init_31 (by decide +kernel) ?_
  refine g_callC (n := 1) (rest := [.ref x48, .ref x0]) (n0 := 49) hx hb hml hts hown hNw hao hA G [.int (iz 8)] (c4_init l w _ _ _ 48 8 49 x48 a48 rfl (by decide +kernel) rfl (by decide) (i := 8) rfl (show _ = WL76 from rfl)) rfl wm_63 wm_46 wm_22 wm_47 rfl ⟨by decide +kernel, by decide +kernel, by decide +kernel⟩ ⟨rfl, rfl, (Nat.le_of_ble_eq_true rfl), (Nat.le_of_ble_eq_true rfl)⟩ rfl hl.1 (Nat.le_of_ble_eq_true rfl) rfl dX6_init_33 ⟨(Nat.le_of_ble_eq_true rfl), (Nat.le_of_ble_eq_true rfl)⟩ (fun g H locs hg G => ?_)
  have a0 := (hg 0 (Nat.le_of_ble_eq_true rfl)).trans a0
  have a1 := (hg 1 (Nat.le_of_ble_eq_true rfl)).trans a1
  have a10 := (hg 10 (Nat.le_of_ble_eq_true rfl)).trans a10
  have a48 := (hg 48 (Nat.le_of_ble_eq_true rfl)).trans a48
  have E : ∀ k, k < 1 → g k = g0 k := fun k hk => (hg k (Nat.lt_of_lt_of_le hk (Nat.le_of_ble_eq_true rfl))).trans (E k hk)
  refine W.widen (k := 49) (n := 861) (Nat.le_of_ble_eq_true rfl) (Nat.le_of_ble_eq_true rfl) ?_
  refine g_putF (k := 0) (ci := 6) (cs := [4, 13, 2, 2, 2, 2, 0, 0]) hx hb hts hown 2 48 inlX6 tyX6 tyX6_ok nmX6 G rfl rfl (by decide) (by decide) wm_23 rfl hin rfl rfl rfl dX6_init_36 a0 a48 (show _ = WL77 from rfl) (fun H locs G => ?_)
  refine lv_aload_n hx hb dX6_init_39 rfl (lv_at hl 0 rfl) ?_
  refine g_newO (n := 50) (ci := 4) (C := RX4) (T := TX4) (N := 1) hx hb hts hown [2] inlX4 tyX4 tyX4_ok G hA rfl (by decide +kernel) rfl (fun j hj => by rcases (show j = 0 by omega) with rfl <;> rfl) (by decide) wm_20 wm_21 wm_22 (Nat.le_of_ble_eq_true rfl) (Nat.le_of_ble_eq_true rfl) dX6_init_40 (show _ = WL78 from rfl) (fun g x50 H a50 hg G => ?_)
  have a0 := (hg 0 (Nat.le_of_ble_eq_true rfl)).trans a0
  have a1 := (hg 1 (Nat.le_of_ble_eq_true rfl)).trans a1
  have a10 := (hg 10 (Nat.le_of_ble_eq_true rfl)).trans a10
  have a48 := (hg 48 (Nat.le_of_ble_eq_true rfl)).trans a48
  have E : ∀ k, k < 1 → g k = g0 k := fun k hk => (hg k (Nat.lt_of_lt_of_le hk (Nat.le_of_ble_eq_true rfl))).trans (E k hk)
  refine W.widen (k := 50) (n := 862) (Nat.le_of_ble_eq_true rfl) (Nat.le_of_ble_eq_true rfl) ?_
  refine lv_dup hx hb dX6_init_43 rfl ?_
  refine lv_iconst (v := iz 3) hx hb dX6_init_44 rfl ?_
  refine g_callC (n := 1) (rest := [.ref x50, .ref x0]) (n0 := 51) hx hb hml hts hown hNw hao hA G [.int (iz 3)] (c4_init l w _ _ _ 50 3 51 x50 a50 rfl (by decide +kernel) rfl (by decide) (i := 3) rfl (show _ = WL79 from rfl)) rfl wm_63 wm_46 wm_22 wm_47 rfl ⟨by decide +kernel, by decide +kernel, by decide +kernel⟩ ⟨rfl, rfl, (Nat.le_of_ble_eq_true rfl), (Nat.le_of_ble_eq_true rfl)⟩ rfl hl.1 (Nat.le_of_ble_eq_true rfl) rfl dX6_init_45 ⟨(Nat.le_of_ble_eq_true rfl), (Nat.le_of_ble_eq_true rfl)⟩ (fun g H locs hg G => ?_)
  have a0 := (hg 0 (Nat.le_of_ble_eq_true rfl)).trans a0
  have a1 := (hg 1 (Nat.le_of_ble_eq_true rfl)).trans a1
  have a10 := (hg 10 (Nat.le_of_ble_eq_true rfl)).trans a10
  have a48 := (hg 48 (Nat.le_of_ble_eq_true rfl)).trans a48
  have a50 := (hg 50 (Nat.le_of_ble_eq_true rfl)).trans a50
  have E : ∀ k, k < 1 → g k = g0 k := fun k hk => (hg k (Nat.lt_of_lt_of_le hk (Nat.le_of_ble_eq_true rfl))).trans (E k hk)
  refine W.widen (k := 51) (n := 865) (Nat.le_of_ble_eq_true rfl) (Nat.le_of_ble_eq_true rfl) ?_
  refine g_putF (k := 0) (ci := 6) (cs := [4, 13, 51, 2, 2, 2, 0, 0]) hx hb hts hown 3 50 inlX6 tyX6 tyX6_ok nmX6 G rfl rfl (by decide) (by decide) wm_24 rfl hin rfl rfl rfl dX6_init_48 a0 a50 (show _ = WL80 from rfl) (fun H locs G => ?_)
  refine lv_aload_n hx hb dX6_init_51 rfl (lv_at hl 0 rfl) ?_
  refine g_newO (n := 52) (ci := 2) (C := RX2) (T := TX2) (N := 5) hx hb hts hown [2, 2, 2, 2, 2] inlX2 tyX2 tyX2_ok G hA rfl (by decide +kernel) rfl (fun j hj => by rcases (show j = 0 ∨ j = 1 ∨ j = 2 ∨ j = 3 ∨ j = 4 by omega) with rfl | rfl | rfl | rfl | rfl <;> rfl) (by decide) wm_25 wm_26 wm_27 (Nat.le_of_ble_eq_true rfl) (Nat.le_of_ble_eq_true rfl) dX6_init_52 (show _ = WL81 from rfl) (fun g x52 H a52 hg G => ?_)
  have a0 := (hg 0 (Nat.le_of_ble_eq_true rfl)).trans a0
  have a1 := (hg 1 (Nat.le_of_ble_eq_true rfl)).trans a1
  have a10 := (hg 10 (Nat.le_of_ble_eq_true rfl)).trans a10
  have a48 := (hg 48 (Nat.le_of_ble_eq_true rfl)).trans a48
  have a50 := (hg 50 (Nat.le_of_ble_eq_true rfl)).trans a50
  have E : ∀ k, k < 1 → g k = g0 k := fun k hk => (hg k (Nat.lt_of_lt_of_le hk (Nat.le_of_ble_eq_true rfl))).trans (E k hk)
  refine W.widen (k := 52) (n := 870) (Nat.le_of_ble_eq_true rfl) (Nat.le_of_ble_eq_true rfl) ?_
  refine lv_dup hx hb dX6_init_55 rfl ?_
  refine lv_aload_n hx hb dX6_init_56 rfl (lv_at hl 0 rfl) ?_
  refine g_getA (k := 0) (ci := 6) (cs := [4, 13, 51, 53, 2, 2, 0, 0]) hx hb hts hown 0 1 inlX6 G rfl rfl (by decide) rfl wm_15 dX6_init_57 a0 a1 ?_
  refine g_callC (n := 1) (rest := [.ref x52, .ref x0]) (n0 := 53) hx hb hml hts hown hNw hao hA G [.ref x1] (cc_Matcher_52 l w _ _ _ x52 a52 x1 a1) rfl wm_64 wm_65 wm_27 wm_66 rfl ⟨by decide +kernel, by decide +kernel, by decide +kernel⟩ ⟨rfl, rfl, (Nat.le_of_ble_eq_true rfl), (Nat.le_of_ble_eq_true rfl)⟩ rfl hl.1 (Nat.le_of_ble_eq_true rfl) rfl dX6_init_60 ⟨(Nat.le_of_ble_eq_true rfl), (Nat.le_of_ble_eq_true rfl)⟩ (fun g H locs hg G => ?_)
  have a0 := (hg 0 (Nat.le_of_ble_eq_true rfl)).trans a0
  have a1 := (hg 1 (Nat.le_of_ble_eq_true rfl)).trans a1
  have a10 := (hg 10 (Nat.le_of_ble_eq_true rfl)).trans a10
  have a48 := (hg 48 (Nat.le_of_ble_eq_true rfl)).trans a48
  have a50 := (hg 50 (Nat.le_of_ble_eq_true rfl)).trans a50
  have a52 := (hg 52 (Nat.le_of_ble_eq_true rfl)).trans a52
  have E : ∀ k, k < 1 → g k = g0 k := fun k hk => (hg k (Nat.lt_of_lt_of_le hk (Nat.le_of_ble_eq_true rfl))).trans (E k hk)
  refine W.widen (k := 60) (n := 6631) (Nat.le_of_ble_eq_true rfl) (Nat.le_of_ble_eq_true rfl) ?_
  refine g_putF (k := 0) (ci := 6) (cs := [4, 13, 51, 53, 2, 2, 0, 0]) hx hb hts hown 4 52 inlX6 tyX6 tyX6_ok nmX6 G rfl rfl (by decide) (by decide) wm_28 rfl hin rfl rfl rfl dX6_init_63 a0 a52 (show _ = WL96 from rfl) (fun H locs G => ?_)
  refine lv_aload_n hx hb dX6_init_66 rfl (lv_at hl 0 rfl) ?_
  refine g_newO (n := 61) (ci := 3) (C := RX3) (T := TX3) (N := 16) hx hb hts hown [2, 2, 2, 2, 2, 2, 2, 2, 2, 2, 2, 0, 0, 0, 0, 0] inlX3 tyX3 tyX3_ok G hA rfl (by decide +kernel) rfl (fun j hj => by rcases (show j = 0 ∨ j = 1 ∨ j = 2 ∨ j = 3 ∨ j = 4 ∨ j = 5 ∨ j = 6 ∨ j = 7 ∨ j = 8 ∨ j = 9 ∨ j = 10 ∨ j = 11 ∨ j = 12 ∨ j = 13 ∨ j = 14 ∨ j = 15 by omega) with rfl | rfl | rfl | rfl | rfl | rfl | rfl | rfl | rfl | rfl | rfl | rfl | rfl | rfl | rfl | rfl <;> rfl) (by decide) wm_29 wm_30 wm_31 (Nat.le_of_ble_eq_true rfl) (Nat.le_of_ble_eq_true rfl) dX6_init_67 (show _ = WL97 from rfl) (fun g x61 H a61 hg G => ?_)
  have a0 := (hg 0 (Nat.le_of_ble_eq_true rfl)).trans a0
  have a1 := (hg 1 (Nat.le_of_ble_eq_true rfl)).trans a1
  have a10 := (hg 10 (Nat.le_of_ble_eq_true rfl)).trans a10
  have a48 := (hg 48 (Nat.le_of_ble_eq_true rfl)).trans a48
  have a50 := (hg 50 (Nat.le_of_ble_eq_true rfl)).trans a50
  have a52 := (hg 52 (Nat.le_of_ble_eq_true rfl)).trans a52
  have E : ∀ k, k < 1 → g k = g0 k := fun k hk => (hg k (Nat.lt_of_lt_of_le hk (Nat.le_of_ble_eq_true rfl))).trans (E k hk)
  refine W.widen (k := 61) (n := 6647) (Nat.le_of_ble_eq_true rfl) (Nat.le_of_ble_eq_true rfl) ?_
  refine lv_dup hx hb dX6_init_70 rfl ?_
  refine lv_aload_n hx hb dX6_init_71 rfl (lv_at hl 0 rfl) ?_
  refine g_getA (k := 0) (ci := 6) (cs := [4, 13, 51, 53, 55, 2, 0, 0]) hx hb hts hown 0 1 inlX6 G rfl rfl (by decide) rfl wm_15 dX6_init_72 a0 a1 ?_
  refine lv_aload_n hx hb dX6_init_75 rfl (lv_at hl 0 rfl) ?_
  refine g_getA (k := 0) (ci := 6) (cs := [4, 13, 51, 53, 55, 2, 0, 0]) hx hb hts hown 4 52 inlX6 G rfl rfl (by decide) rfl wm_28 dX6_init_76 a0 a52 ?_
  refine g_callC (n := 2) (rest := [.ref x61, .ref x0]) (n0 := 62) hx hb hml hts hown hNw hao hA G [.ref x1, .ref x52] (cc_Nodes_61 l w _ _ _ x61 a61 x1 a1 x52 a52) rfl wm_82 wm_83 wm_31 wm_84 rfl ⟨by decide +kernel, by decide +kernel, by decide +kernel⟩ ⟨rfl, rfl, (Nat.le_of_ble_eq_true rfl), (Nat.le_of_ble_eq_true rfl)⟩ rfl hl.1 (Nat.le_of_ble_eq_true rfl) rfl dX6_init_79 ⟨(Nat.le_of_ble_eq_true rfl), (Nat.le_of_ble_eq_true rfl)⟩ (fun g H locs hg G => ?_)
  have a0 := (hg 0 (Nat.le_of_ble_eq_true rfl)).trans a0
  have a1 := (hg 1 (Nat.le_of_ble_eq_true rfl)).trans a1
  have a10 := (hg 10 (Nat.le_of_ble_eq_true rfl)).trans a10
  have a48 := (hg 48 (Nat.le_of_ble_eq_true rfl)).trans a48
  have a50 := (hg 50 (Nat.le_of_ble_eq_true rfl)).trans a50
  have a52 := (hg 52 (Nat.le_of_ble_eq_true rfl)).trans a52
  have a61 := (hg 61 (Nat.le_of_ble_eq_true rfl)).trans a61
  have E : ∀ k, k < 1 → g k = g0 k := fun k hk => (hg k (Nat.lt_of_lt_of_le hk (Nat.le_of_ble_eq_true rfl))).trans (E k hk)
  refine W.widen (k := 79) (n := 7556) (Nat.le_of_ble_eq_true rfl) (Nat.le_of_ble_eq_true rfl) ?_
  refine g_putF (k := 0) (ci := 6) (cs := [4, 13, 51, 53, 55, 2, 0, 0]) hx hb hts hown 5 61 inlX6 tyX6 tyX6_ok nmX6 G rfl rfl (by decide) (by decide) wm_32 rfl hin rfl rfl rfl dX6_init_82 a0 a61 (show _ = WL127 from rfl) (fun H locs G => ?_)
  refine lv_aload_n hx hb dX6_init_85 rfl (lv_at hl 0 rfl) ?_
  refine lv_iconst (v := iz 0) hx hb dX6_init_86 rfl ?_
  refine g_putA (k := 0) (ci := 6) (cs := [4, 13, 51, 53, 55, 64, 0, 0]) hx hb hts hown 6 inlX6 tyX6 tyX6_ok nmX6 G rfl rfl (by decide) rfl wm_33 rfl rfl rfl dX6_init_87 a0 (fun H locs G => ?_)
  refine lv_aload_n hx hb dX6_init_90 rfl (lv_at hl 0 rfl) ?_
  refine lv_iconst (v := iz 1) hx hb dX6_init_91 rfl ?_
  refine g_putA (k := 0) (ci := 6) (cs := [4, 13, 51, 53, 55, 64, 0, 0]) hx hb hts hown 7 inlX6 tyX6 tyX6_ok nmX6 G rfl rfl (by decide) rfl wm_34 rfl rfl rfl dX6_init_92 a0 (fun H locs G => ?_)
  exact g_cret (n0 := 1) hx hb hr hlk rfl hz E G (Nat.le_of_ble_eq_true rfl) (Nat.le_of_ble_eq_true rfl) dX6_init_95
def WL128 : List Sh := [(1, 6, [4, 13, 51, 53, 55, 64, 0, 0]), (1, 5, [5, 7, 9, 11, 0]), (1, 4, [6]), (0, 100, []), (1, 4, [8]), (0, 6, []), (1, 4, [10]), (0, 48, []), (1, 4, [12]), (0, 6, []), (1, 1, [14, 0, 0]), (2, 4, [15, 24, 33, 42]), (1, 5, [16, 18, 20, 22, 0]), (1, 4, [17]), (0, 100, []), (1, 4, [19]), (0, 6, []), (1, 4, [21]), (0, 48, []), (1, 4, [23]), (0, 6, []), (1, 5, [25, 27, 29, 31, 0]), (1, 4, [26]), (0, 100, []), (1, 4, [28]), (0, 6, []), (1, 4, [30]), (0, 48, []), (1, 4, [32]), (0, 6, []), (1, 5, [34, 36, 38, 40, 0]), (1, 4, [35]), (0, 100, []), (1, 4, [37]), (0, 6, []), (1, 4, [39]), (0, 48, []), (1, 4, [41]), (0, 6, []), (1, 5, [43, 45, 47, 49, 0]), (1, 4, [44]), (0, 100, []), (1, 4, [46]), (0, 6, []), (1, 4, [48]), (0, 48, []), (1, 4, [50]), (0, 6, []), (1, 4, [52]), (0, 8, []), (1, 4, [54]), (0, 3, []), (1, 2, [4, 56, 58, 60, 62]), (1, 4, [57]), (0, 101, []), (1, 4, [59]), (0, 101, []), (1, 4, [61]), (0, 101, []), (1, 0, [63]), (0, 5454, []), (1, 3, [4, 55, 65, 67, 69, 71, 73, 75, 77, 79, 81, 0, 0, 0, 0, 0]), (1, 4, [66]), (0, 100, []), (1, 4, [68]), (0, 100, []), (1, 4, [70]), (0, 100, []), (1, 4, [72]), (0, 100, []), (1, 4, [74]), (0, 100, []), (1, 4, [76]), (0, 100, []), (1, 4, [78]), (0, 100, []), (1, 4, [80]), (0, 100, []), (1, 4, [82]), (0, 100, []), (1, 7, [2, 2, 0, 2, 0, 2, 2, 2, 2, 2, 2, 2, 0, 0, 0, 0, 1])]
def WL129 : List Sh := [(1, 6, [4, 13, 51, 53, 55, 64, 0, 0]), (1, 5, [5, 7, 9, 11, 0]), (1, 4, [6]), (0, 100, []), (1, 4, [8]), (0, 6, []), (1, 4, [10]), (0, 48, []), (1, 4, [12]), (0, 6, []), (1, 1, [14, 0, 0]), (2, 4, [15, 24, 33, 42]), (1, 5, [16, 18, 20, 22, 0]), (1, 4, [17]), (0, 100, []), (1, 4, [19]), (0, 6, []), (1, 4, [21]), (0, 48, []), (1, 4, [23]), (0, 6, []), (1, 5, [25, 27, 29, 31, 0]), (1, 4, [26]), (0, 100, []), (1, 4, [28]), (0, 6, []), (1, 4, [30]), (0, 48, []), (1, 4, [32]), (0, 6, []), (1, 5, [34, 36, 38, 40, 0]), (1, 4, [35]), (0, 100, []), (1, 4, [37]), (0, 6, []), (1, 4, [39]), (0, 48, []), (1, 4, [41]), (0, 6, []), (1, 5, [43, 45, 47, 49, 0]), (1, 4, [44]), (0, 100, []), (1, 4, [46]), (0, 6, []), (1, 4, [48]), (0, 48, []), (1, 4, [50]), (0, 6, []), (1, 4, [52]), (0, 8, []), (1, 4, [54]), (0, 3, []), (1, 2, [4, 56, 58, 60, 62]), (1, 4, [57]), (0, 101, []), (1, 4, [59]), (0, 101, []), (1, 4, [61]), (0, 101, []), (1, 0, [63]), (0, 5454, []), (1, 3, [4, 55, 65, 67, 69, 71, 73, 75, 77, 79, 81, 0, 0, 0, 0, 0]), (1, 4, [66]), (0, 100, []), (1, 4, [68]), (0, 100, []), (1, 4, [70]), (0, 100, []), (1, 4, [72]), (0, 100, []), (1, 4, [74]), (0, 100, []), (1, 4, [76]), (0, 100, []), (1, 4, [78]), (0, 100, []), (1, 4, [80]), (0, 100, []), (1, 4, [82]), (0, 100, []), (1, 7, [2, 2, 0, 2, 0, 2, 2, 2, 2, 2, 2, 2, 0, 0, 0, 0, 1]), (0, 161, [])]
def WL130 : List Sh := [(1, 6, [4, 13, 51, 53, 55, 64, 0, 0]), (1, 5, [5, 7, 9, 11, 0]), (1, 4, [6]), (0, 100, []), (1, 4, [8]), (0, 6, []), (1, 4, [10]), (0, 48, []), (1, 4, [12]), (0, 6, []), (1, 1, [14, 0, 0]), (2, 4, [15, 24, 33, 42]), (1, 5, [16, 18, 20, 22, 0]), (1, 4, [17]), (0, 100, []), (1, 4, [19]), (0, 6, []), (1, 4, [21]), (0, 48, []), (1, 4, [23]), (0, 6, []), (1, 5, [25, 27, 29, 31, 0]), (1, 4, [26]), (0, 100, []), (1, 4, [28]), (0, 6, []), (1, 4, [30]), (0, 48, []), (1, 4, [32]), (0, 6, []), (1, 5, [34, 36, 38, 40, 0]), (1, 4, [35]), (0, 100, []), (1, 4, [37]), (0, 6, []), (1, 4, [39]), (0, 48, []), (1, 4, [41]), (0, 6, []), (1, 5, [43, 45, 47, 49, 0]), (1, 4, [44]), (0, 100, []), (1, 4, [46]), (0, 6, []), (1, 4, [48]), (0, 48, []), (1, 4, [50]), (0, 6, []), (1, 4, [52]), (0, 8, []), (1, 4, [54]), (0, 3, []), (1, 2, [4, 56, 58, 60, 62]), (1, 4, [57]), (0, 101, []), (1, 4, [59]), (0, 101, []), (1, 4, [61]), (0, 101, []), (1, 0, [63]), (0, 5454, []), (1, 3, [4, 55, 65, 67, 69, 71, 73, 75, 77, 79, 81, 0, 0, 0, 0, 0]), (1, 4, [66]), (0, 100, []), (1, 4, [68]), (0, 100, []), (1, 4, [70]), (0, 100, []), (1, 4, [72]), (0, 100, []), (1, 4, [74]), (0, 100, []), (1, 4, [76]), (0, 100, []), (1, 4, [78]), (0, 100, []), (1, 4, [80]), (0, 100, []), (1, 4, [82]), (0, 100, []), (1, 7, [84, 2, 0, 2, 0, 2, 2, 2, 2, 2, 2, 2, 0, 0, 0, 0, 1]), (0, 161, [])]
def WL131 : List Sh := [(1, 6, [4, 13, 51, 53, 55, 64, 0, 0]), (1, 5, [5, 7, 9, 11, 0]), (1, 4, [6]), (0, 100, []), (1, 4, [8]), (0, 6, []), (1, 4, [10]), (0, 48, []), (1, 4, [12]), (0, 6, []), (1, 1, [14, 0, 0]), (2, 4, [15, 24, 33, 42]), (1, 5, [16, 18, 20, 22, 0]), (1, 4, [17]), (0, 100, []), (1, 4, [19]), (0, 6, []), (1, 4, [21]), (0, 48, []), (1, 4, [23]), (0, 6, []), (1, 5, [25, 27, 29, 31, 0]), (1, 4, [26]), (0, 100, []), (1, 4, [28]), (0, 6, []), (1, 4, [30]), (0, 48, []), (1, 4, [32]), (0, 6, []), (1, 5, [34, 36, 38, 40, 0]), (1, 4, [35]), (0, 100, []), (1, 4, [37]), (0, 6, []), (1, 4, [39]), (0, 48, []), (1, 4, [41]), (0, 6, []), (1, 5, [43, 45, 47, 49, 0]), (1, 4, [44]), (0, 100, []), (1, 4, [46]), (0, 6, []), (1, 4, [48]), (0, 48, []), (1, 4, [50]), (0, 6, []), (1, 4, [52]), (0, 8, []), (1, 4, [54]), (0, 3, []), (1, 2, [4, 56, 58, 60, 62]), (1, 4, [57]), (0, 101, []), (1, 4, [59]), (0, 101, []), (1, 4, [61]), (0, 101, []), (1, 0, [63]), (0, 5454, []), (1, 3, [4, 55, 65, 67, 69, 71, 73, 75, 77, 79, 81, 0, 0, 0, 0, 0]), (1, 4, [66]), (0, 100, []), (1, 4, [68]), (0, 100, []), (1, 4, [70]), (0, 100, []), (1, 4, [72]), (0, 100, []), (1, 4, [74]), (0, 100, []), (1, 4, [76]), (0, 100, []), (1, 4, [78]), (0, 100, []), (1, 4, [80]), (0, 100, []), (1, 4, [82]), (0, 100, []), (1, 7, [84, 2, 0, 2, 0, 2, 2, 2, 2, 2, 2, 2, 0, 0, 0, 0, 1]), (0, 161, []), (0, 644, [])]
def WL132 : List Sh := [(1, 6, [4, 13, 51, 53, 55, 64, 0, 0]), (1, 5, [5, 7, 9, 11, 0]), (1, 4, [6]), (0, 100, []), (1, 4, [8]), (0, 6, []), (1, 4, [10]), (0, 48, []), (1, 4, [12]), (0, 6, []), (1, 1, [14, 0, 0]), (2, 4, [15, 24, 33, 42]), (1, 5, [16, 18, 20, 22, 0]), (1, 4, [17]), (0, 100, []), (1, 4, [19]), (0, 6, []), (1, 4, [21]), (0, 48, []), (1, 4, [23]), (0, 6, []), (1, 5, [25, 27, 29, 31, 0]), (1, 4, [26]), (0, 100, []), (1, 4, [28]), (0, 6, []), (1, 4, [30]), (0, 48, []), (1, 4, [32]), (0, 6, []), (1, 5, [34, 36, 38, 40, 0]), (1, 4, [35]), (0, 100, []), (1, 4, [37]), (0, 6, []), (1, 4, [39]), (0, 48, []), (1, 4, [41]), (0, 6, []), (1, 5, [43, 45, 47, 49, 0]), (1, 4, [44]), (0, 100, []), (1, 4, [46]), (0, 6, []), (1, 4, [48]), (0, 48, []), (1, 4, [50]), (0, 6, []), (1, 4, [52]), (0, 8, []), (1, 4, [54]), (0, 3, []), (1, 2, [4, 56, 58, 60, 62]), (1, 4, [57]), (0, 101, []), (1, 4, [59]), (0, 101, []), (1, 4, [61]), (0, 101, []), (1, 0, [63]), (0, 5454, []), (1, 3, [4, 55, 65, 67, 69, 71, 73, 75, 77, 79, 81, 0, 0, 0, 0, 0]), (1, 4, [66]), (0, 100, []), (1, 4, [68]), (0, 100, []), (1, 4, [70]), (0, 100, []), (1, 4, [72]), (0, 100, []), (1, 4, [74]), (0, 100, []), (1, 4, [76]), (0, 100, []), (1, 4, [78]), (0, 100, []), (1, 4, [80]), (0, 100, []), (1, 4, [82]), (0, 100, []), (1, 7, [84, 85, 0, 2, 0, 2, 2, 2, 2, 2, 2, 2, 0, 0, 0, 0, 1]), (0, 161, []), (0, 644, [])]
def WL133 : List Sh := [(1, 6, [4, 13, 51, 53, 55, 64, 0, 0]), (1, 5, [5, 7, 9, 11, 0]), (1, 4, [6]), (0, 100, []), (1, 4, [8]), (0, 6, []), (1, 4, [10]), (0, 48, []), (1, 4, [12]), (0, 6, []), (1, 1, [14, 0, 0]), (2, 4, [15, 24, 33, 42]), (1, 5, [16, 18, 20, 22, 0]), (1, 4, [17]), (0, 100, []), (1, 4, [19]), (0, 6, []), (1, 4, [21]), (0, 48, []), (1, 4, [23]), (0, 6, []), (1, 5, [25, 27, 29, 31, 0]), (1, 4, [26]), (0, 100, []), (1, 4, [28]), (0, 6, []), (1, 4, [30]), (0, 48, []), (1, 4, [32]), (0, 6, []), (1, 5, [34, 36, 38, 40, 0]), (1, 4, [35]), (0, 100, []), (1, 4, [37]), (0, 6, []), (1, 4, [39]), (0, 48, []), (1, 4, [41]), (0, 6, []), (1, 5, [43, 45, 47, 49, 0]), (1, 4, [44]), (0, 100, []), (1, 4, [46]), (0, 6, []), (1, 4, [48]), (0, 48, []), (1, 4, [50]), (0, 6, []), (1, 4, [52]), (0, 8, []), (1, 4, [54]), (0, 3, []), (1, 2, [4, 56, 58, 60, 62]), (1, 4, [57]), (0, 101, []), (1, 4, [59]), (0, 101, []), (1, 4, [61]), (0, 101, []), (1, 0, [63]), (0, 5454, []), (1, 3, [4, 55, 65, 67, 69, 71, 73, 75, 77, 79, 81, 0, 0, 0, 0, 0]), (1, 4, [66]), (0, 100, []), (1, 4, [68]), (0, 100, []), (1, 4, [70]), (0, 100, []), (1, 4, [72]), (0, 100, []), (1, 4, [74]), (0, 100, []), (1, 4, [76]), (0, 100, []), (1, 4, [78]), (0, 100, []), (1, 4, [80]), (0, 100, []), (1, 4, [82]), (0, 100, []), (1, 7, [84, 85, 0, 2, 0, 2, 2, 2, 2, 2, 2, 2, 0, 0, 0, 0, 1]), (0, 161, []), (0, 644, []), (0, 8, [])]
def WL134 : List Sh := [(1, 6, [4, 13, 51, 53, 55, 64, 0, 0]), (1, 5, [5, 7, 9, 11, 0]), (1, 4, [6]), (0, 100, []), (1, 4, [8]), (0, 6, []), (1, 4, [10]), (0, 48, []), (1, 4, [12]), (0, 6, []), (1, 1, [14, 0, 0]), (2, 4, [15, 24, 33, 42]), (1, 5, [16, 18, 20, 22, 0]), (1, 4, [17]), (0, 100, []), (1, 4, [19]), (0, 6, []), (1, 4, [21]), (0, 48, []), (1, 4, [23]), (0, 6, []), (1, 5, [25, 27, 29, 31, 0]), (1, 4, [26]), (0, 100, []), (1, 4, [28]), (0, 6, []), (1, 4, [30]), (0, 48, []), (1, 4, [32]), (0, 6, []), (1, 5, [34, 36, 38, 40, 0]), (1, 4, [35]), (0, 100, []), (1, 4, [37]), (0, 6, []), (1, 4, [39]), (0, 48, []), (1, 4, [41]), (0, 6, []), (1, 5, [43, 45, 47, 49, 0]), (1, 4, [44]), (0, 100, []), (1, 4, [46]), (0, 6, []), (1, 4, [48]), (0, 48, []), (1, 4, [50]), (0, 6, []), (1, 4, [52]), (0, 8, []), (1, 4, [54]), (0, 3, []), (1, 2, [4, 56, 58, 60, 62]), (1, 4, [57]), (0, 101, []), (1, 4, [59]), (0, 101, []), (1, 4, [61]), (0, 101, []), (1, 0, [63]), (0, 5454, []), (1, 3, [4, 55, 65, 67, 69, 71, 73, 75, 77, 79, 81, 0, 0, 0, 0, 0]), (1, 4, [66]), (0, 100, []), (1, 4, [68]), (0, 100, []), (1, 4, [70]), (0, 100, []), (1, 4, [72]), (0, 100, []), (1, 4, [74]), (0, 100, []), (1, 4, [76]), (0, 100, []), (1, 4, [78]), (0, 100, []), (1, 4, [80]), (0, 100, []), (1, 4, [82]), (0, 100, []), (1, 7, [84, 85, 0, 86, 0, 2, 2, 2, 2, 2, 2, 2, 0, 0, 0, 0, 1]), (0, 161, []), (0, 644, []), (0, 8, [])]
def WL135 : List Sh := [(1, 6, [4, 13, 51, 53, 55, 64, 0, 0]), (1, 5, [5, 7, 9, 11, 0]), (1, 4, [6]), (0, 100, []), (1, 4, [8]), (0, 6, []), (1, 4, [10]), (0, 48, []), (1, 4, [12]), (0, 6, []), (1, 1, [14, 0, 0]), (2, 4, [15, 24, 33, 42]), (1, 5, [16, 18, 20, 22, 0]), (1, 4, [17]), (0, 100, []), (1, 4, [19]), (0, 6, []), (1, 4, [21]), (0, 48, []), (1, 4, [23]), (0, 6, []), (1, 5, [25, 27, 29, 31, 0]), (1, 4, [26]), (0, 100, []), (1, 4, [28]), (0, 6, []), (1, 4, [30]), (0, 48, []), (1, 4, [32]), (0, 6, []), (1, 5, [34, 36, 38, 40, 0]), (1, 4, [35]), (0, 100, []), (1, 4, [37]), (0, 6, []), (1, 4, [39]), (0, 48, []), (1, 4, [41]), (0, 6, []), (1, 5, [43, 45, 47, 49, 0]), (1, 4, [44]), (0, 100, []), (1, 4, [46]), (0, 6, []), (1, 4, [48]), (0, 48, []), (1, 4, [50]), (0, 6, []), (1, 4, [52]), (0, 8, []), (1, 4, [54]), (0, 3, []), (1, 2, [4, 56, 58, 60, 62]), (1, 4, [57]), (0, 101, []), (1, 4, [59]), (0, 101, []), (1, 4, [61]), (0, 101, []), (1, 0, [63]), (0, 5454, []), (1, 3, [4, 55, 65, 67, 69, 71, 73, 75, 77, 79, 81, 0, 0, 0, 0, 0]), (1, 4, [66]), (0, 100, []), (1, 4, [68]), (0, 100, []), (1, 4, [70]), (0, 100, []), (1, 4, [72]), (0, 100, []), (1, 4, [74]), (0, 100, []), (1, 4, [76]), (0, 100, []), (1, 4, [78]), (0, 100, []), (1, 4, [80]), (0, 100, []), (1, 4, [82]), (0, 100, []), (1, 7, [84, 85, 0, 86, 0, 2, 2, 2, 2, 2, 2, 2, 0, 0, 0, 0, 1]), (0, 161, []), (0, 644, []), (0, 8, []), (0, 3, [])]
def WL136 : List Sh := [(1, 6, [4, 13, 51, 53, 55, 64, 0, 0]), (1, 5, [5, 7, 9, 11, 0]), (1, 4, [6]), (0, 100, []), (1, 4, [8]), (0, 6, []), (1, 4, [10]), (0, 48, []), (1, 4, [12]), (0, 6, []), (1, 1, [14, 0, 0]), (2, 4, [15, 24, 33, 42]), (1, 5, [16, 18, 20, 22, 0]), (1, 4, [17]), (0, 100, []), (1, 4, [19]), (0, 6, []), (1, 4, [21]), (0, 48, []), (1, 4, [23]), (0, 6, []), (1, 5, [25, 27, 29, 31, 0]), (1, 4, [26]), (0, 100, []), (1, 4, [28]), (0, 6, []), (1, 4, [30]), (0, 48, []), (1, 4, [32]), (0, 6, []), (1, 5, [34, 36, 38, 40, 0]), (1, 4, [35]), (0, 100, []), (1, 4, [37]), (0, 6, []), (1, 4, [39]), (0, 48, []), (1, 4, [41]), (0, 6, []), (1, 5, [43, 45, 47, 49, 0]), (1, 4, [44]), (0, 100, []), (1, 4, [46]), (0, 6, []), (1, 4, [48]), (0, 48, []), (1, 4, [50]), (0, 6, []), (1, 4, [52]), (0, 8, []), (1, 4, [54]), (0, 3, []), (1, 2, [4, 56, 58, 60, 62]), (1, 4, [57]), (0, 101, []), (1, 4, [59]), (0, 101, []), (1, 4, [61]), (0, 101, []), (1, 0, [63]), (0, 5454, []), (1, 3, [4, 55, 65, 67, 69, 71, 73, 75, 77, 79, 81, 0, 0, 0, 0, 0]), (1, 4, [66]), (0, 100, []), (1, 4, [68]), (0, 100, []), (1, 4, [70]), (0, 100, []), (1, 4, [72]), (0, 100, []), (1, 4, [74]), (0, 100, []), (1, 4, [76]), (0, 100, []), (1, 4, [78]), (0, 100, []), (1, 4, [80]), (0, 100, []), (1, 4, [82]), (0, 100, []), (1, 7, [84, 85, 0, 86, 0, 87, 2, 2, 2, 2, 2, 2, 0, 0, 0, 0, 1]), (0, 161, []), (0, 644, []), (0, 8, []), (0, 3, [])]
def WL137 : List Sh := [(1, 6, [4, 13, 51, 53, 55, 64, 0, 0]), (1, 5, [5, 7, 9, 11, 0]), (1, 4, [6]), (0, 100, []), (1, 4, [8]), (0, 6, []), (1, 4, [10]), (0, 48, []), (1, 4, [12]), (0, 6, []), (1, 1, [14, 0, 0]), (2, 4, [15, 24, 33, 42]), (1, 5, [16, 18, 20, 22, 0]), (1, 4, [17]), (0, 100, []), (1, 4, [19]), (0, 6, []), (1, 4, [21]), (0, 48, []), (1, 4, [23]), (0, 6, []), (1, 5, [25, 27, 29, 31, 0]), (1, 4, [26]), (0, 100, []), (1, 4, [28]), (0, 6, []), (1, 4, [30]), (0, 48, []), (1, 4, [32]), (0, 6, []), (1, 5, [34, 36, 38, 40, 0]), (1, 4, [35]), (0, 100, []), (1, 4, [37]), (0, 6, []), (1, 4, [39]), (0, 48, []), (1, 4, [41]), (0, 6, []), (1, 5, [43, 45, 47, 49, 0]), (1, 4, [44]), (0, 100, []), (1, 4, [46]), (0, 6, []), (1, 4, [48]), (0, 48, []), (1, 4, [50]), (0, 6, []), (1, 4, [52]), (0, 8, []), (1, 4, [54]), (0, 3, []), (1, 2, [4, 56, 58, 60, 62]), (1, 4, [57]), (0, 101, []), (1, 4, [59]), (0, 101, []), (1, 4, [61]), (0, 101, []), (1, 0, [63]), (0, 5454, []), (1, 3, [4, 55, 65, 67, 69, 71, 73, 75, 77, 79, 81, 0, 0, 0, 0, 0]), (1, 4, [66]), (0, 100, []), (1, 4, [68]), (0, 100, []), (1, 4, [70]), (0, 100, []), (1, 4, [72]), (0, 100, []), (1, 4, [74]), (0, 100, []), (1, 4, [76]), (0, 100, []), (1, 4, [78]), (0, 100, []), (1, 4, [80]), (0, 100, []), (1, 4, [82]), (0, 100, []), (1, 7, [84, 85, 0, 86, 0, 87, 2, 2, 2, 2, 2, 2, 0, 0, 0, 0, 1]), (0, 161, []), (0, 644, []), (0, 8, []), (0, 3, []), (0, 5454, [])]
def WL138 : List Sh := [(1, 6, [4, 13, 51, 53, 55, 64, 0, 0]), (1, 5, [5, 7, 9, 11, 0]), (1, 4, [6]), (0, 100, []), (1, 4, [8]), (0, 6, []), (1, 4, [10]), (0, 48, []), (1, 4, [12]), (0, 6, []), (1, 1, [14, 0, 0]), (2, 4, [15, 24, 33, 42]), (1, 5, [16, 18, 20, 22, 0]), (1, 4, [17]), (0, 100, []), (1, 4, [19]), (0, 6, []), (1, 4, [21]), (0, 48, []), (1, 4, [23]), (0, 6, []), (1, 5, [25, 27, 29, 31, 0]), (1, 4, [26]), (0, 100, []), (1, 4, [28]), (0, 6, []), (1, 4, [30]), (0, 48, []), (1, 4, [32]), (0, 6, []), (1, 5, [34, 36, 38, 40, 0]), (1, 4, [35]), (0, 100, []), (1, 4, [37]), (0, 6, []), (1, 4, [39]), (0, 48, []), (1, 4, [41]), (0, 6, []), (1, 5, [43, 45, 47, 49, 0]), (1, 4, [44]), (0, 100, []), (1, 4, [46]), (0, 6, []), (1, 4, [48]), (0, 48, []), (1, 4, [50]), (0, 6, []), (1, 4, [52]), (0, 8, []), (1, 4, [54]), (0, 3, []), (1, 2, [4, 56, 58, 60, 62]), (1, 4, [57]), (0, 101, []), (1, 4, [59]), (0, 101, []), (1, 4, [61]), (0, 101, []), (1, 0, [63]), (0, 5454, []), (1, 3, [4, 55, 65, 67, 69, 71, 73, 75, 77, 79, 81, 0, 0, 0, 0, 0]), (1, 4, [66]), (0, 100, []), (1, 4, [68]), (0, 100, []), (1, 4, [70]), (0, 100, []), (1, 4, [72]), (0, 100, []), (1, 4, [74]), (0, 100, []), (1, 4, [76]), (0, 100, []), (1, 4, [78]), (0, 100, []), (1, 4, [80]), (0, 100, []), (1, 4, [82]), (0, 100, []), (1, 7, [84, 85, 0, 86, 0, 87, 88, 2, 2, 2, 2, 2, 0, 0, 0, 0, 1]), (0, 161, []), (0, 644, []), (0, 8, []), (0, 3, []), (0, 5454, [])]
def WL139 : List Sh := [(1, 6, [4, 13, 51, 53, 55, 64, 0, 0]), (1, 5, [5, 7, 9, 11, 0]), (1, 4, [6]), (0, 100, []), (1, 4, [8]), (0, 6, []), (1, 4, [10]), (0, 48, []), (1, 4, [12]), (0, 6, []), (1, 1, [14, 0, 0]), (2, 4, [15, 24, 33, 42]), (1, 5, [16, 18, 20, 22, 0]), (1, 4, [17]), (0, 100, []), (1, 4, [19]), (0, 6, []), (1, 4, [21]), (0, 48, []), (1, 4, [23]), (0, 6, []), (1, 5, [25, 27, 29, 31, 0]), (1, 4, [26]), (0, 100, []), (1, 4, [28]), (0, 6, []), (1, 4, [30]), (0, 48, []), (1, 4, [32]), (0, 6, []), (1, 5, [34, 36, 38, 40, 0]), (1, 4, [35]), (0, 100, []), (1, 4, [37]), (0, 6, []), (1, 4, [39]), (0, 48, []), (1, 4, [41]), (0, 6, []), (1, 5, [43, 45, 47, 49, 0]), (1, 4, [44]), (0, 100, []), (1, 4, [46]), (0, 6, []), (1, 4, [48]), (0, 48, []), (1, 4, [50]), (0, 6, []), (1, 4, [52]), (0, 8, []), (1, 4, [54]), (0, 3, []), (1, 2, [4, 56, 58, 60, 62]), (1, 4, [57]), (0, 101, []), (1, 4, [59]), (0, 101, []), (1, 4, [61]), (0, 101, []), (1, 0, [63]), (0, 5454, []), (1, 3, [4, 55, 65, 67, 69, 71, 73, 75, 77, 79, 81, 0, 0, 0, 0, 0]), (1, 4, [66]), (0, 100, []), (1, 4, [68]), (0, 100, []), (1, 4, [70]), (0, 100, []), (1, 4, [72]), (0, 100, []), (1, 4, [74]), (0, 100, []), (1, 4, [76]), (0, 100, []), (1, 4, [78]), (0, 100, []), (1, 4, [80]), (0, 100, []), (1, 4, [82]), (0, 100, []), (1, 7, [84, 85, 0, 86, 0, 87, 88, 2, 2, 2, 2, 2, 0, 0, 0, 0, 1]), (0, 161, []), (0, 644, []), (0, 8, []), (0, 3, []), (0, 5454, []), (0, 100, [])]
def WL140 : List Sh := [(1, 6, [4, 13, 51, 53, 55, 64, 0, 0]), (1, 5, [5, 7, 9, 11, 0]), (1, 4, [6]), (0, 100, []), (1, 4, [8]), (0, 6, []), (1, 4, [10]), (0, 48, []), (1, 4, [12]), (0, 6, []), (1, 1, [14, 0, 0]), (2, 4, [15, 24, 33, 42]), (1, 5, [16, 18, 20, 22, 0]), (1, 4, [17]), (0, 100, []), (1, 4, [19]), (0, 6, []), (1, 4, [21]), (0, 48, []), (1, 4, [23]), (0, 6, []), (1, 5, [25, 27, 29, 31, 0]), (1, 4, [26]), (0, 100, []), (1, 4, [28]), (0, 6, []), (1, 4, [30]), (0, 48, []), (1, 4, [32]), (0, 6, []), (1, 5, [34, 36, 38, 40, 0]), (1, 4, [35]), (0, 100, []), (1, 4, [37]), (0, 6, []), (1, 4, [39]), (0, 48, []), (1, 4, [41]), (0, 6, []), (1, 5, [43, 45, 47, 49, 0]), (1, 4, [44]), (0, 100, []), (1, 4, [46]), (0, 6, []), (1, 4, [48]), (0, 48, []), (1, 4, [50]), (0, 6, []), (1, 4, [52]), (0, 8, []), (1, 4, [54]), (0, 3, []), (1, 2, [4, 56, 58, 60, 62]), (1, 4, [57]), (0, 101, []), (1, 4, [59]), (0, 101, []), (1, 4, [61]), (0, 101, []), (1, 0, [63]), (0, 5454, []), (1, 3, [4, 55, 65, 67, 69, 71, 73, 75, 77, 79, 81, 0, 0, 0, 0, 0]), (1, 4, [66]), (0, 100, []), (1, 4, [68]), (0, 100, []), (1, 4, [70]), (0, 100, []), (1, 4, [72]), (0, 100, []), (1, 4, [74]), (0, 100, []), (1, 4, [76]), (0, 100, []), (1, 4, [78]), (0, 100, []), (1, 4, [80]), (0, 100, []), (1, 4, [82]), (0, 100, []), (1, 7, [84, 85, 0, 86, 0, 87, 88, 89, 2, 2, 2, 2, 0, 0, 0, 0, 1]), (0, 161, []), (0, 644, []), (0, 8, []), (0, 3, []), (0, 5454, []), (0, 100, [])]
def WL141 : List Sh := [(1, 6, [4, 13, 51, 53, 55, 64, 0, 0]), (1, 5, [5, 7, 9, 11, 0]), (1, 4, [6]), (0, 100, []), (1, 4, [8]), (0, 6, []), (1, 4, [10]), (0, 48, []), (1, 4, [12]), (0, 6, []), (1, 1, [14, 0, 0]), (2, 4, [15, 24, 33, 42]), (1, 5, [16, 18, 20, 22, 0]), (1, 4, [17]), (0, 100, []), (1, 4, [19]), (0, 6, []), (1, 4, [21]), (0, 48, []), (1, 4, [23]), (0, 6, []), (1, 5, [25, 27, 29, 31, 0]), (1, 4, [26]), (0, 100, []), (1, 4, [28]), (0, 6, []), (1, 4, [30]), (0, 48, []), (1, 4, [32]), (0, 6, []), (1, 5, [34, 36, 38, 40, 0]), (1, 4, [35]), (0, 100, []), (1, 4, [37]), (0, 6, []), (1, 4, [39]), (0, 48, []), (1, 4, [41]), (0, 6, []), (1, 5, [43, 45, 47, 49, 0]), (1, 4, [44]), (0, 100, []), (1, 4, [46]), (0, 6, []), (1, 4, [48]), (0, 48, []), (1, 4, [50]), (0, 6, []), (1, 4, [52]), (0, 8, []), (1, 4, [54]), (0, 3, []), (1, 2, [4, 56, 58, 60, 62]), (1, 4, [57]), (0, 101, []), (1, 4, [59]), (0, 101, []), (1, 4, [61]), (0, 101, []), (1, 0, [63]), (0, 5454, []), (1, 3, [4, 55, 65, 67, 69, 71, 73, 75, 77, 79, 81, 0, 0, 0, 0, 0]), (1, 4, [66]), (0, 100, []), (1, 4, [68]), (0, 100, []), (1, 4, [70]), (0, 100, []), (1, 4, [72]), (0, 100, []), (1, 4, [74]), (0, 100, []), (1, 4, [76]), (0, 100, []), (1, 4, [78]), (0, 100, []), (1, 4, [80]), (0, 100, []), (1, 4, [82]), (0, 100, []), (1, 7, [84, 85, 0, 86, 0, 87, 88, 89, 2, 2, 2, 2, 0, 0, 0, 0, 1]), (0, 161, []), (0, 644, []), (0, 8, []), (0, 3, []), (0, 5454, []), (0, 100, []), (0, 100, [])]
def WL142 : List Sh := [(1, 6, [4, 13, 51, 53, 55, 64, 0, 0]), (1, 5, [5, 7, 9, 11, 0]), (1, 4, [6]), (0, 100, []), (1, 4, [8]), (0, 6, []), (1, 4, [10]), (0, 48, []), (1, 4, [12]), (0, 6, []), (1, 1, [14, 0, 0]), (2, 4, [15, 24, 33, 42]), (1, 5, [16, 18, 20, 22, 0]), (1, 4, [17]), (0, 100, []), (1, 4, [19]), (0, 6, []), (1, 4, [21]), (0, 48, []), (1, 4, [23]), (0, 6, []), (1, 5, [25, 27, 29, 31, 0]), (1, 4, [26]), (0, 100, []), (1, 4, [28]), (0, 6, []), (1, 4, [30]), (0, 48, []), (1, 4, [32]), (0, 6, []), (1, 5, [34, 36, 38, 40, 0]), (1, 4, [35]), (0, 100, []), (1, 4, [37]), (0, 6, []), (1, 4, [39]), (0, 48, []), (1, 4, [41]), (0, 6, []), (1, 5, [43, 45, 47, 49, 0]), (1, 4, [44]), (0, 100, []), (1, 4, [46]), (0, 6, []), (1, 4, [48]), (0, 48, []), (1, 4, [50]), (0, 6, []), (1, 4, [52]), (0, 8, []), (1, 4, [54]), (0, 3, []), (1, 2, [4, 56, 58, 60, 62]), (1, 4, [57]), (0, 101, []), (1, 4, [59]), (0, 101, []), (1, 4, [61]), (0, 101, []), (1, 0, [63]), (0, 5454, []), (1, 3, [4, 55, 65, 67, 69, 71, 73, 75, 77, 79, 81, 0, 0, 0, 0, 0]), (1, 4, [66]), (0, 100, []), (1, 4, [68]), (0, 100, []), (1, 4, [70]), (0, 100, []), (1, 4, [72]), (0, 100, []), (1, 4, [74]), (0, 100, []), (1, 4, [76]), (0, 100, []), (1, 4, [78]), (0, 100, []), (1, 4, [80]), (0, 100, []), (1, 4, [82]), (0, 100, []), (1, 7, [84, 85, 0, 86, 0, 87, 88, 89, 90, 2, 2, 2, 0, 0, 0, 0, 1]), (0, 161, []), (0, 644, []), (0, 8, []), (0, 3, []), (0, 5454, []), (0, 100, []), (0, 100, [])]
def WL143 : List Sh := [(1, 6, [4, 13, 51, 53, 55, 64, 0, 0]), (1, 5, [5, 7, 9, 11, 0]), (1, 4, [6]), (0, 100, []), (1, 4, [8]), (0, 6, []), (1, 4, [10]), (0, 48, []), (1, 4, [12]), (0, 6, []), (1, 1, [14, 0, 0]), (2, 4, [15, 24, 33, 42]), (1, 5, [16, 18, 20, 22, 0]), (1, 4, [17]), (0, 100, []), (1, 4, [19]), (0, 6, []), (1, 4, [21]), (0, 48, []), (1, 4, [23]), (0, 6, []), (1, 5, [25, 27, 29, 31, 0]), (1, 4, [26]), (0, 100, []), (1, 4, [28]), (0, 6, []), (1, 4, [30]), (0, 48, []), (1, 4, [32]), (0, 6, []), (1, 5, [34, 36, 38, 40, 0]), (1, 4, [35]), (0, 100, []), (1, 4, [37]), (0, 6, []), (1, 4, [39]), (0, 48, []), (1, 4, [41]), (0, 6, []), (1, 5, [43, 45, 47, 49, 0]), (1, 4, [44]), (0, 100, []), (1, 4, [46]), (0, 6, []), (1, 4, [48]), (0, 48, []), (1, 4, [50]), (0, 6, []), (1, 4, [52]), (0, 8, []), (1, 4, [54]), (0, 3, []), (1, 2, [4, 56, 58, 60, 62]), (1, 4, [57]), (0, 101, []), (1, 4, [59]), (0, 101, []), (1, 4, [61]), (0, 101, []), (1, 0, [63]), (0, 5454, []), (1, 3, [4, 55, 65, 67, 69, 71, 73, 75, 77, 79, 81, 0, 0, 0, 0, 0]), (1, 4, [66]), (0, 100, []), (1, 4, [68]), (0, 100, []), (1, 4, [70]), (0, 100, []), (1, 4, [72]), (0, 100, []), (1, 4, [74]), (0, 100, []), (1, 4, [76]), (0, 100, []), (1, 4, [78]), (0, 100, []), (1, 4, [80]), (0, 100, []), (1, 4, [82]), (0, 100, []), (1, 7, [84, 85, 0, 86, 0, 87, 88, 89, 90, 2, 2, 2, 0, 0, 0, 0, 1]), (0, 161, []), (0, 644, []), (0, 8, []), (0, 3, []), (0, 5454, []), (0, 100, []), (0, 100, []), (0, 100, [])]
def WL144 : List Sh := [(1, 6, [4, 13, 51, 53, 55, 64, 0, 0]), (1, 5, [5, 7, 9, 11, 0]), (1, 4, [6]), (0, 100, []), (1, 4, [8]), (0, 6, []), (1, 4, [10]), (0, 48, []), (1, 4, [12]), (0, 6, []), (1, 1, [14, 0, 0]), (2, 4, [15, 24, 33, 42]), (1, 5, [16, 18, 20, 22, 0]), (1, 4, [17]), (0, 100, []), (1, 4, [19]), (0, 6, []), (1, 4, [21]), (0, 48, []), (1, 4, [23]), (0, 6, []), (1, 5, [25, 27, 29, 31, 0]), (1, 4, [26]), (0, 100, []), (1, 4, [28]), (0, 6, []), (1, 4, [30]), (0, 48, []), (1, 4, [32]), (0, 6, []), (1, 5, [34, 36, 38, 40, 0]), (1, 4, [35]), (0, 100, []), (1, 4, [37]), (0, 6, []), (1, 4, [39]), (0, 48, []), (1, 4, [41]), (0, 6, []), (1, 5, [43, 45, 47, 49, 0]), (1, 4, [44]), (0, 100, []), (1, 4, [46]), (0, 6, []), (1, 4, [48]), (0, 48, []), (1, 4, [50]), (0, 6, []), (1, 4, [52]), (0, 8, []), (1, 4, [54]), (0, 3, []), (1, 2, [4, 56, 58, 60, 62]), (1, 4, [57]), (0, 101, []), (1, 4, [59]), (0, 101, []), (1, 4, [61]), (0, 101, []), (1, 0, [63]), (0, 5454, []), (1, 3, [4, 55, 65, 67, 69, 71, 73, 75, 77, 79, 81, 0, 0, 0, 0, 0]), (1, 4, [66]), (0, 100, []), (1, 4, [68]), (0, 100, []), (1, 4, [70]), (0, 100, []), (1, 4, [72]), (0, 100, []), (1, 4, [74]), (0, 100, []), (1, 4, [76]), (0, 100, []), (1, 4, [78]), (0, 100, []), (1, 4, [80]), (0, 100, []), (1, 4, [82]), (0, 100, []), (1, 7, [84, 85, 0, 86, 0, 87, 88, 89, 90, 91, 2, 2, 0, 0, 0, 0, 1]), (0, 161, []), (0, 644, []), (0, 8, []), (0, 3, []), (0, 5454, []), (0, 100, []), (0, 100, []), (0, 100, [])]
def WL145 : List Sh := [(1, 6, [4, 13, 51, 53, 55, 64, 0, 0]), (1, 5, [5, 7, 9, 11, 0]), (1, 4, [6]), (0, 100, []), (1, 4, [8]), (0, 6, []), (1, 4, [10]), (0, 48, []), (1, 4, [12]), (0, 6, []), (1, 1, [14, 0, 0]), (2, 4, [15, 24, 33, 42]), (1, 5, [16, 18, 20, 22, 0]), (1, 4, [17]), (0, 100, []), (1, 4, [19]), (0, 6, []), (1, 4, [21]), (0, 48, []), (1, 4, [23]), (0, 6, []), (1, 5, [25, 27, 29, 31, 0]), (1, 4, [26]), (0, 100, []), (1, 4, [28]), (0, 6, []), (1, 4, [30]), (0, 48, []), (1, 4, [32]), (0, 6, []), (1, 5, [34, 36, 38, 40, 0]), (1, 4, [35]), (0, 100, []), (1, 4, [37]), (0, 6, []), (1, 4, [39]), (0, 48, []), (1, 4, [41]), (0, 6, []), (1, 5, [43, 45, 47, 49, 0]), (1, 4, [44]), (0, 100, []), (1, 4, [46]), (0, 6, []), (1, 4, [48]), (0, 48, []), (1, 4, [50]), (0, 6, []), (1, 4, [52]), (0, 8, []), (1, 4, [54]), (0, 3, []), (1, 2, [4, 56, 58, 60, 62]), (1, 4, [57]), (0, 101, []), (1, 4, [59]), (0, 101, []), (1, 4, [61]), (0, 101, []), (1, 0, [63]), (0, 5454, []), (1, 3, [4, 55, 65, 67, 69, 71, 73, 75, 77, 79, 81, 0, 0, 0, 0, 0]), (1, 4, [66]), (0, 100, []), (1, 4, [68]), (0, 100, []), (1, 4, [70]), (0, 100, []), (1, 4, [72]), (0, 100, []), (1, 4, [74]), (0, 100, []), (1, 4, [76]), (0, 100, []), (1, 4, [78]), (0, 100, []), (1, 4, [80]), (0, 100, []), (1, 4, [82]), (0, 100, []), (1, 7, [84, 85, 0, 86, 0, 87, 88, 89, 90, 91, 2, 2, 0, 0, 0, 0, 1]), (0, 161, []), (0, 644, []), (0, 8, []), (0, 3, []), (0, 5454, []), (0, 100, []), (0, 100, []), (0, 100, []), (0, 100, [])]
def WL146 : List Sh := [(1, 6, [4, 13, 51, 53, 55, 64, 0, 0]), (1, 5, [5, 7, 9, 11, 0]), (1, 4, [6]), (0, 100, []), (1, 4, [8]), (0, 6, []), (1, 4, [10]), (0, 48, []), (1, 4, [12]), (0, 6, []), (1, 1, [14, 0, 0]), (2, 4, [15, 24, 33, 42]), (1, 5, [16, 18, 20, 22, 0]), (1, 4, [17]), (0, 100, []), (1, 4, [19]), (0, 6, []), (1, 4, [21]), (0, 48, []), (1, 4, [23]), (0, 6, []), (1, 5, [25, 27, 29, 31, 0]), (1, 4, [26]), (0, 100, []), (1, 4, [28]), (0, 6, []), (1, 4, [30]), (0, 48, []), (1, 4, [32]), (0, 6, []), (1, 5, [34, 36, 38, 40, 0]), (1, 4, [35]), (0, 100, []), (1, 4, [37]), (0, 6, []), (1, 4, [39]), (0, 48, []), (1, 4, [41]), (0, 6, []), (1, 5, [43, 45, 47, 49, 0]), (1, 4, [44]), (0, 100, []), (1, 4, [46]), (0, 6, []), (1, 4, [48]), (0, 48, []), (1, 4, [50]), (0, 6, []), (1, 4, [52]), (0, 8, []), (1, 4, [54]), (0, 3, []), (1, 2, [4, 56, 58, 60, 62]), (1, 4, [57]), (0, 101, []), (1, 4, [59]), (0, 101, []), (1, 4, [61]), (0, 101, []), (1, 0, [63]), (0, 5454, []), (1, 3, [4, 55, 65, 67, 69, 71, 73, 75, 77, 79, 81, 0, 0, 0, 0, 0]), (1, 4, [66]), (0, 100, []), (1, 4, [68]), (0, 100, []), (1, 4, [70]), (0, 100, []), (1, 4, [72]), (0, 100, []), (1, 4, [74]), (0, 100, []), (1, 4, [76]), (0, 100, []), (1, 4, [78]), (0, 100, []), (1, 4, [80]), (0, 100, []), (1, 4, [82]), (0, 100, []), (1, 7, [84, 85, 0, 86, 0, 87, 88, 89, 90, 91, 92, 2, 0, 0, 0, 0, 1]), (0, 161, []), (0, 644, []), (0, 8, []), (0, 3, []), (0, 5454, []), (0, 100, []), (0, 100, []), (0, 100, []), (0, 100, [])]
def WL147 : List Sh := [(1, 6, [4, 13, 51, 53, 55, 64, 0, 0]), (1, 5, [5, 7, 9, 11, 0]), (1, 4, [6]), (0, 100, []), (1, 4, [8]), (0, 6, []), (1, 4, [10]), (0, 48, []), (1, 4, [12]), (0, 6, []), (1, 1, [14, 0, 0]), (2, 4, [15, 24, 33, 42]), (1, 5, [16, 18, 20, 22, 0]), (1, 4, [17]), (0, 100, []), (1, 4, [19]), (0, 6, []), (1, 4, [21]), (0, 48, []), (1, 4, [23]), (0, 6, []), (1, 5, [25, 27, 29, 31, 0]), (1, 4, [26]), (0, 100, []), (1, 4, [28]), (0, 6, []), (1, 4, [30]), (0, 48, []), (1, 4, [32]), (0, 6, []), (1, 5, [34, 36, 38, 40, 0]), (1, 4, [35]), (0, 100, []), (1, 4, [37]), (0, 6, []), (1, 4, [39]), (0, 48, []), (1, 4, [41]), (0, 6, []), (1, 5, [43, 45, 47, 49, 0]), (1, 4, [44]), (0, 100, []), (1, 4, [46]), (0, 6, []), (1, 4, [48]), (0, 48, []), (1, 4, [50]), (0, 6, []), (1, 4, [52]), (0, 8, []), (1, 4, [54]), (0, 3, []), (1, 2, [4, 56, 58, 60, 62]), (1, 4, [57]), (0, 101, []), (1, 4, [59]), (0, 101, []), (1, 4, [61]), (0, 101, []), (1, 0, [63]), (0, 5454, []), (1, 3, [4, 55, 65, 67, 69, 71, 73, 75, 77, 79, 81, 0, 0, 0, 0, 0]), (1, 4, [66]), (0, 100, []), (1, 4, [68]), (0, 100, []), (1, 4, [70]), (0, 100, []), (1, 4, [72]), (0, 100, []), (1, 4, [74]), (0, 100, []), (1, 4, [76]), (0, 100, []), (1, 4, [78]), (0, 100, []), (1, 4, [80]), (0, 100, []), (1, 4, [82]), (0, 100, []), (1, 7, [84, 85, 0, 86, 0, 87, 88, 89, 90, 91, 92, 2, 0, 0, 0, 0, 1]), (0, 161, []), (0, 644, []), (0, 8, []), (0, 3, []), (0, 5454, []), (0, 100, []), (0, 100, []), (0, 100, []), (0, 100, []), (0, 100, [])]
def sg_Model_80 (σ : St) : St := (up (up (up (up (up (up (ur (ur (ur (ur (ur (ur (ur (ur (ur (ur σ 81 (fun _ => 0)) 82 (fun _ => 0)) 83 (fun _ => 0)) 84 (fun _ => 0)) 85 (fun _ => 0)) 86 (fun _ => 0)) 87 (fun _ => 0)) 88 (fun _ => 0)) 89 (fun _ => 0)) 90 (fun _ => 0)) 81 155 (-1)) 81 156 (-1)) 81 157 (-1)) 81 158 (-1)) 81 159 (-1)) 81 160 (-1))
abbrev rc_Model_80 : Room := ({ frames := 1, cells := 10, slots := 6770, locals := 12 } : Room)
set_option maxHeartbeats 4000000 in
set_option maxRecDepth 100000 in
theorem cc_Model_80 (l : Launch) (w : GW) (g0 : Nat → Nat) (σ : St) (sz : Nat) (x80 : Nat) (a80 : g0 80 = x80) : Met l yX7_init (Cond.code yX7_init cX7_init 2 none :: wsL_law) rc_Model_80 (gPcC (gw w g0) WL128 σ sz [.ref x80]) (gQc w g0 WL128.length sz gSL (sg_Model_80 σ)) 10 6770 (gA (gw w g0) WL128.length sz) := by
  refine g_metC (by decide) [.ref x80] (Nat.le_of_ble_eq_true rfl) ?_
  intro p e s m below meth c ls hz C0 hin hao hl G
  obtain ⟨hx, hb, hr, hml, hown, hts, hlk, hNw, hA⟩ := id C0
  have hown : s.vm.findClass RX7 = some m.cls := hown
  have hl : lv_has ls 2 [(0, .ref x80)] := hl
  have E : ∀ k, k < 81 → g0 k = g0 k := fun _ _ => rfl
  refine lv_aload_n hx hb dX7_init_0 rfl (lv_at hl 0 rfl) ?_
  refine g_objI hx hb hml hts hown wm_107 wm_10 wm_11 hl.1 (Nat.le_of_ble_eq_true rfl) (Nat.le_of_ble_eq_true rfl) dX7_init_1 ?_
  refine lv_aload_n hx hb dX7_init_4 rfl (lv_at hl 0 rfl) ?_
  refine lv_sipush (v := iz 161) hx hb dX7_init_5 (by decide +kernel) ?_
  refine g_newI (n := 81) hx hb hts G hA rfl (by decide +kernel) wm_49 161 rfl (by decide) (Nat.le_of_ble_eq_true rfl) (Nat.le_of_ble_eq_true rfl) dX7_init_8 (show _ = WL129 from rfl) (fun g x81 H a81 hg G => ?_)
  have a80 := (hg 80 (Nat.le_of_ble_eq_true rfl)).trans a80
  have E : ∀ k, k < 81 → g k = g0 k := fun k hk => (hg k (Nat.lt_of_lt_of_le hk (Nat.le_of_ble_eq_true rfl))).trans (E k hk)
  refine W.widen (k := 1) (n := 161) (Nat.le_of_ble_eq_true rfl) (Nat.le_of_ble_eq_true rfl) ?_
  refine g_putF (k := 80) (ci := 7) (cs := [2, 2, 0, 2, 0, 2, 2, 2, 2, 2, 2, 2, 0, 0, 0, 0, 1]) hx hb hts hown 0 81 inlX7 tyX7 tyX7_ok nmX7 G rfl rfl (by decide) (by decide) wm_108 rfl hin rfl rfl rfl dX7_init_10 a80 a81 (show _ = WL130 from rfl) (fun H locs G => ?_)
  refine lv_aload_n hx hb dX7_init_13 rfl (lv_at hl 0 rfl) ?_
  refine lv_sipush (v := iz 644) hx hb dX7_init_14 (by decide +kernel) ?_
  refine g_newI (n := 82) hx hb hts G hA rfl (by decide +kernel) wm_49 644 rfl (by decide) (Nat.le_of_ble_eq_true rfl) (Nat.le_of_ble_eq_true rfl) dX7_init_17 (show _ = WL131 from rfl) (fun g x82 H a82 hg G => ?_)
  have a80 := (hg 80 (Nat.le_of_ble_eq_true rfl)).trans a80
  have a81 := (hg 81 (Nat.le_of_ble_eq_true rfl)).trans a81
  have E : ∀ k, k < 81 → g k = g0 k := fun k hk => (hg k (Nat.lt_of_lt_of_le hk (Nat.le_of_ble_eq_true rfl))).trans (E k hk)
  refine W.widen (k := 2) (n := 805) (Nat.le_of_ble_eq_true rfl) (Nat.le_of_ble_eq_true rfl) ?_
  refine g_putF (k := 80) (ci := 7) (cs := [84, 2, 0, 2, 0, 2, 2, 2, 2, 2, 2, 2, 0, 0, 0, 0, 1]) hx hb hts hown 1 82 inlX7 tyX7 tyX7_ok nmX7 G rfl rfl (by decide) (by decide) wm_109 rfl hin rfl rfl rfl dX7_init_19 a80 a82 (show _ = WL132 from rfl) (fun H locs G => ?_)
  refine lv_aload_n hx hb dX7_init_22 rfl (lv_at hl 0 rfl) ?_
  refine lv_bipush (v := iz 8) hx hb dX7_init_23 (by decide +kernel) ?_
  refine g_newI (n := 83) hx hb hts G hA rfl (by decide +kernel) wm_49 8 rfl (by decide) (Nat.le_of_ble_eq_true rfl) (Nat.le_of_ble_eq_true rfl) dX7_init_25 (show _ = WL133 from rfl) (fun g x83 H a83 hg G => ?_)
  have a80 := (hg 80 (Nat.le_of_ble_eq_true rfl)).trans a80
  have a81 := (hg 81 (Nat.le_of_ble_eq_true rfl)).trans a81
  have a82 := (hg 82 (Nat.le_of_ble_eq_true rfl)).trans a82
  have E : ∀ k, k < 81 → g k = g0 k := fun k hk => (hg k (Nat.lt_of_lt_of_le hk (Nat.le_of_ble_eq_true rfl))).trans (E k hk)
  refine W.widen (k := 3) (n := 813) (Nat.le_of_ble_eq_true rfl) (Nat.le_of_ble_eq_true rfl) ?_
  refine g_putF (k := 80) (ci := 7) (cs := [84, 85, 0, 2, 0, 2, 2, 2, 2, 2, 2, 2, 0, 0, 0, 0, 1]) hx hb hts hown 3 83 inlX7 tyX7 tyX7_ok nmX7 G rfl rfl (by decide) (by decide) wm_110 rfl hin rfl rfl rfl dX7_init_27 a80 a83 (show _ = WL134 from rfl) (fun H locs G => ?_)
  refine lv_aload_n hx hb dX7_init_30 rfl (lv_at hl 0 rfl) ?_
  refine lv_iconst (v := iz 3) hx hb dX7_init_31 rfl ?_
  refine g_newI (n := 84) hx hb hts G hA rfl (by decide +kernel) wm_49 3 rfl (by decide) (Nat.le_of_ble_eq_true rfl) (Nat.le_of_ble_eq_true rfl) dX7_init_32 (show _ = WL135 from rfl) (fun g x84 H a84 hg G => ?_)
  have a80 := (hg 80 (Nat.le_of_ble_eq_true rfl)).trans a80
  have a81 := (hg 81 (Nat.le_of_ble_eq_true rfl)).trans a81
  have a82 := (hg 82 (Nat.le_of_ble_eq_true rfl)).trans a82
  have a83 := (hg 83 (Nat.le_of_ble_eq_true rfl)).trans a83
  have E : ∀ k, k < 81 → g k = g0 k := fun k hk => (hg k (Nat.lt_of_lt_of_le hk (Nat.le_of_ble_eq_true rfl))).trans (E k hk)
  refine W.widen (k := 4) (n := 816) (Nat.le_of_ble_eq_true rfl) (Nat.le_of_ble_eq_true rfl) ?_
  refine g_putF (k := 80) (ci := 7) (cs := [84, 85, 0, 86, 0, 2, 2, 2, 2, 2, 2, 2, 0, 0, 0, 0, 1]) hx hb hts hown 5 84 inlX7 tyX7 tyX7_ok nmX7 G rfl rfl (by decide) (by decide) wm_111 rfl hin rfl rfl rfl dX7_init_34 a80 a84 (show _ = WL136 from rfl) (fun H locs G => ?_)
  refine lv_aload_n hx hb dX7_init_37 rfl (lv_at hl 0 rfl) ?_
  refine lv_sipush (v := iz 5454) hx hb dX7_init_38 (by decide +kernel) ?_
  refine g_newI (n := 85) hx hb hts G hA rfl (by decide +kernel) wm_49 5454 rfl (by decide) (Nat.le_of_ble_eq_true rfl) (Nat.le_of_ble_eq_true rfl) dX7_init_41 (show _ = WL137 from rfl) (fun g x85 H a85 hg G => ?_)
  have a80 := (hg 80 (Nat.le_of_ble_eq_true rfl)).trans a80
  have a81 := (hg 81 (Nat.le_of_ble_eq_true rfl)).trans a81
  have a82 := (hg 82 (Nat.le_of_ble_eq_true rfl)).trans a82
  have a83 := (hg 83 (Nat.le_of_ble_eq_true rfl)).trans a83
  have a84 := (hg 84 (Nat.le_of_ble_eq_true rfl)).trans a84
  have E : ∀ k, k < 81 → g k = g0 k := fun k hk => (hg k (Nat.lt_of_lt_of_le hk (Nat.le_of_ble_eq_true rfl))).trans (E k hk)
  refine W.widen (k := 5) (n := 6270) (Nat.le_of_ble_eq_true rfl) (Nat.le_of_ble_eq_true rfl) ?_
  refine g_putF (k := 80) (ci := 7) (cs := [84, 85, 0, 86, 0, 87, 2, 2, 2, 2, 2, 2, 0, 0, 0, 0, 1]) hx hb hts hown 6 85 inlX7 tyX7 tyX7_ok nmX7 G rfl rfl (by decide) (by decide) wm_112 rfl hin rfl rfl rfl dX7_init_43 a80 a85 (show _ = WL138 from rfl) (fun H locs G => ?_)
  refine lv_aload_n hx hb dX7_init_46 rfl (lv_at hl 0 rfl) ?_
  refine lv_bipush (v := iz 100) hx hb dX7_init_47 (by decide +kernel) ?_
  refine g_newI (n := 86) hx hb hts G hA rfl (by decide +kernel) wm_49 100 rfl (by decide) (Nat.le_of_ble_eq_true rfl) (Nat.le_of_ble_eq_true rfl) dX7_init_49 (show _ = WL139 from rfl) (fun g x86 H a86 hg G => ?_)
  have a80 := (hg 80 (Nat.le_of_ble_eq_true rfl)).trans a80
  have a81 := (hg 81 (Nat.le_of_ble_eq_true rfl)).trans a81
  have a82 := (hg 82 (Nat.le_of_ble_eq_true rfl)).trans a82
  have a83 := (hg 83 (Nat.le_of_ble_eq_true rfl)).trans a83
  have a84 := (hg 84 (Nat.le_of_ble_eq_true rfl)).trans a84
  have a85 := (hg 85 (Nat.le_of_ble_eq_true rfl)).trans a85
  have E : ∀ k, k < 81 → g k = g0 k := fun k hk => (hg k (Nat.lt_of_lt_of_le hk (Nat.le_of_ble_eq_true rfl))).trans (E k hk)
  refine W.widen (k := 6) (n := 6370) (Nat.le_of_ble_eq_true rfl) (Nat.le_of_ble_eq_true rfl) ?_
  refine g_putF (k := 80) (ci := 7) (cs := [84, 85, 0, 86, 0, 87, 88, 2, 2, 2, 2, 2, 0, 0, 0, 0, 1]) hx hb hts hown 7 86 inlX7 tyX7 tyX7_ok nmX7 G rfl rfl (by decide) (by decide) wm_113 rfl hin rfl rfl rfl dX7_init_51 a80 a86 (show _ = WL140 from rfl) (fun H locs G => ?_)
  refine lv_aload_n hx hb dX7_init_54 rfl (lv_at hl 0 rfl) ?_
  refine lv_bipush (v := iz 100) hx hb dX7_init_55 (by decide +kernel) ?_
  refine g_newI (n := 87) hx hb hts G hA rfl (by decide +kernel) wm_49 100 rfl (by decide) (Nat.le_of_ble_eq_true rfl) (Nat.le_of_ble_eq_true rfl) dX7_init_57 (show _ = WL141 from rfl) (fun g x87 H a87 hg G => ?_)
  have a80 := (hg 80 (Nat.le_of_ble_eq_true rfl)).trans a80
  have a81 := (hg 81 (Nat.le_of_ble_eq_true rfl)).trans a81
  have a82 := (hg 82 (Nat.le_of_ble_eq_true rfl)).trans a82
  have a83 := (hg 83 (Nat.le_of_ble_eq_true rfl)).trans a83
  have a84 := (hg 84 (Nat.le_of_ble_eq_true rfl)).trans a84
  have a85 := (hg 85 (Nat.le_of_ble_eq_true rfl)).trans a85
  have a86 := (hg 86 (Nat.le_of_ble_eq_true rfl)).trans a86
  have E : ∀ k, k < 81 → g k = g0 k := fun k hk => (hg k (Nat.lt_of_lt_of_le hk (Nat.le_of_ble_eq_true rfl))).trans (E k hk)
  refine W.widen (k := 7) (n := 6470) (Nat.le_of_ble_eq_true rfl) (Nat.le_of_ble_eq_true rfl) ?_
  refine g_putF (k := 80) (ci := 7) (cs := [84, 85, 0, 86, 0, 87, 88, 89, 2, 2, 2, 2, 0, 0, 0, 0, 1]) hx hb hts hown 8 87 inlX7 tyX7 tyX7_ok nmX7 G rfl rfl (by decide) (by decide) wm_114 rfl hin rfl rfl rfl dX7_init_59 a80 a87 (show _ = WL142 from rfl) (fun H locs G => ?_)
  refine lv_aload_n hx hb dX7_init_62 rfl (lv_at hl 0 rfl) ?_
  refine lv_bipush (v := iz 100) hx hb dX7_init_63 (by decide +kernel) ?_
  refine g_newI (n := 88) hx hb hts G hA rfl (by decide +kernel) wm_49 100 rfl (by decide) (Nat.le_of_ble_eq_true rfl) (Nat.le_of_ble_eq_true rfl) dX7_init_65 (show _ = WL143 from rfl) (fun g x88 H a88 hg G => ?_)
  have a80 := (hg 80 (Nat.le_of_ble_eq_true rfl)).trans a80
  have a81 := (hg 81 (Nat.le_of_ble_eq_true rfl)).trans a81
  have a82 := (hg 82 (Nat.le_of_ble_eq_true rfl)).trans a82
  have a83 := (hg 83 (Nat.le_of_ble_eq_true rfl)).trans a83
  have a84 := (hg 84 (Nat.le_of_ble_eq_true rfl)).trans a84
  have a85 := (hg 85 (Nat.le_of_ble_eq_true rfl)).trans a85
  have a86 := (hg 86 (Nat.le_of_ble_eq_true rfl)).trans a86
  have a87 := (hg 87 (Nat.le_of_ble_eq_true rfl)).trans a87
  have E : ∀ k, k < 81 → g k = g0 k := fun k hk => (hg k (Nat.lt_of_lt_of_le hk (Nat.le_of_ble_eq_true rfl))).trans (E k hk)
  refine W.widen (k := 8) (n := 6570) (Nat.le_of_ble_eq_true rfl) (Nat.le_of_ble_eq_true rfl) ?_
  refine g_putF (k := 80) (ci := 7) (cs := [84, 85, 0, 86, 0, 87, 88, 89, 90, 2, 2, 2, 0, 0, 0, 0, 1]) hx hb hts hown 9 88 inlX7 tyX7 tyX7_ok nmX7 G rfl rfl (by decide) (by decide) wm_115 rfl hin rfl rfl rfl dX7_init_67 a80 a88 (show _ = WL144 from rfl) (fun H locs G => ?_)
  refine lv_aload_n hx hb dX7_init_70 rfl (lv_at hl 0 rfl) ?_
  refine lv_bipush (v := iz 100) hx hb dX7_init_71 (by decide +kernel) ?_
  refine g_newI (n := 89) hx hb hts G hA rfl (by decide +kernel) wm_49 100 rfl (by decide) (Nat.le_of_ble_eq_true rfl) (Nat.le_of_ble_eq_true rfl) dX7_init_73 (show _ = WL145 from rfl) (fun g x89 H a89 hg G => ?_)
  have a80 := (hg 80 (Nat.le_of_ble_eq_true rfl)).trans a80
  have a81 := (hg 81 (Nat.le_of_ble_eq_true rfl)).trans a81
  have a82 := (hg 82 (Nat.le_of_ble_eq_true rfl)).trans a82
  have a83 := (hg 83 (Nat.le_of_ble_eq_true rfl)).trans a83
  have a84 := (hg 84 (Nat.le_of_ble_eq_true rfl)).trans a84
  have a85 := (hg 85 (Nat.le_of_ble_eq_true rfl)).trans a85
  have a86 := (hg 86 (Nat.le_of_ble_eq_true rfl)).trans a86
  have a87 := (hg 87 (Nat.le_of_ble_eq_true rfl)).trans a87
  have a88 := (hg 88 (Nat.le_of_ble_eq_true rfl)).trans a88
  have E : ∀ k, k < 81 → g k = g0 k := fun k hk => (hg k (Nat.lt_of_lt_of_le hk (Nat.le_of_ble_eq_true rfl))).trans (E k hk)
  refine W.widen (k := 9) (n := 6670) (Nat.le_of_ble_eq_true rfl) (Nat.le_of_ble_eq_true rfl) ?_
  refine g_putF (k := 80) (ci := 7) (cs := [84, 85, 0, 86, 0, 87, 88, 89, 90, 91, 2, 2, 0, 0, 0, 0, 1]) hx hb hts hown 10 89 inlX7 tyX7 tyX7_ok nmX7 G rfl rfl (by decide) (by decide) wm_116 rfl hin rfl rfl rfl dX7_init_75 a80 a89 (show _ = WL146 from rfl) (fun H locs G => ?_)
  refine lv_aload_n hx hb dX7_init_78 rfl (lv_at hl 0 rfl) ?_
  refine lv_bipush (v := iz 100) hx hb dX7_init_79 (by decide +kernel) ?_
  refine g_newI (n := 90) hx hb hts G hA rfl (by decide +kernel) wm_49 100 rfl (by decide) (Nat.le_of_ble_eq_true rfl) (Nat.le_of_ble_eq_true rfl) dX7_init_81 (show _ = WL147 from rfl) (fun g x90 H a90 hg G => ?_)
  have a80 := (hg 80 (Nat.le_of_ble_eq_true rfl)).trans a80
  have a81 := (hg 81 (Nat.le_of_ble_eq_true rfl)).trans a81
  have a82 := (hg 82 (Nat.le_of_ble_eq_true rfl)).trans a82
  have a83 := (hg 83 (Nat.le_of_ble_eq_true rfl)).trans a83
  have a84 := (hg 84 (Nat.le_of_ble_eq_true rfl)).trans a84
  have a85 := (hg 85 (Nat.le_of_ble_eq_true rfl)).trans a85
  have a86 := (hg 86 (Nat.le_of_ble_eq_true rfl)).trans a86
  have a87 := (hg 87 (Nat.le_of_ble_eq_true rfl)).trans a87
  have a88 := (hg 88 (Nat.le_of_ble_eq_true rfl)).trans a88
  have a89 := (hg 89 (Nat.le_of_ble_eq_true rfl)).trans a89
  have E : ∀ k, k < 81 → g k = g0 k := fun k hk => (hg k (Nat.lt_of_lt_of_le hk (Nat.le_of_ble_eq_true rfl))).trans (E k hk)
  refine W.widen (k := 10) (n := 6770) (Nat.le_of_ble_eq_true rfl) (Nat.le_of_ble_eq_true rfl) ?_
  refine g_putF (k := 80) (ci := 7) (cs := [84, 85, 0, 86, 0, 87, 88, 89, 90, 91, 92, 2, 0, 0, 0, 0, 1]) hx hb hts hown 11 90 inlX7 tyX7 tyX7_ok nmX7 G rfl rfl (by decide) (by decide) wm_117 rfl hin rfl rfl rfl dX7_init_83 a80 a90 (show _ = gSL from rfl) (fun H locs G => ?_)
  refine lv_iconst (v := iz 0) hx hb dX7_init_86 rfl ?_
  refine lv_istore_n (lv' := [(1, .int (iz 0)), (0, .ref x80)]) hx hb dX7_init_87 rfl hl (by decide) rfl (fun ls hl => ?_)
  refine lv_iload_n hx hb dX7_init_88 rfl (lv_at hl 0 rfl) ?_
  refine lv_bipush (v := iz 6) hx hb dX7_init_89 (by decide +kernel) ?_
  refine g_icmp_ge (tgt := 111) hx hb ⟨by decide, by decide⟩ ⟨by decide, by decide⟩ dX7_init_91 (by decide) (fun q => absurd q (by decide)) (fun _ => ?_)
  refine lv_aload_n hx hb dX7_init_94 rfl (lv_at hl 1 rfl) ?_
  refine g_getA (k := 80) (ci := 7) (cs := [84, 85, 0, 86, 0, 87, 88, 89, 90, 91, 92, 93, 0, 0, 0, 0, 1]) hx hb hts hown 0 81 inlX7 G rfl rfl (by decide) rfl wm_108 dX7_init_95 a80 a81 ?_
  refine lv_sipush (v := iz 155) hx hb dX7_init_98 (by decide +kernel) ?_
  refine lv_iload_n hx hb dX7_init_101 rfl (lv_at hl 0 rfl) ?_
  refine g_iadd hx hb dX7_init_102 ?_
  refine W.eq (g2 := F0 m 103 ls [.int (iz 155), .ref x81]) rfl ?_
  refine lv_iconst (v := iz (-1)) hx hb dX7_init_103 rfl ?_
  refine g_astA (k := 81) (N := 161) (cs := []) (i := 155) (x := (-1)) hx hb G rfl (by decide) (by decide) (by decide) dX7_init_104 a81 (fun H locs G => ?_)
  refine g_iinc (k := 0) (x := 0) (n := 1) (lv' := [(1, .int (iz 1)), (0, .ref x80)]) hx hb dX7_init_105 hl rfl (by decide) rfl (fun ls hl => ?_)
  refine lv_goto (tgt := 88) hx hb dX7_init_108 (by decide) ?_
  refine lv_iload_n hx hb dX7_init_88 rfl (lv_at hl 0 rfl) ?_
  refine lv_bipush (v := iz 6) hx hb dX7_init_89 (by decide +kernel) ?_
  refine g_icmp_ge (tgt := 111) hx hb ⟨by decide, by decide⟩ ⟨by decide, by decide⟩ dX7_init_91 (by decide) (fun q => absurd q (by decide)) (fun _ => ?_)
  refine lv_aload_n hx hb dX7_init_94 rfl (lv_at hl 1 rfl) ?_
  refine g_getA (k := 80) (ci := 7) (cs := [84, 85, 0, 86, 0, 87, 88, 89, 90, 91, 92, 93, 0, 0, 0, 0, 1]) hx hb hts hown 0 81 inlX7 G rfl rfl (by decide) rfl wm_108 dX7_init_95 a80 a81 ?_
  refine lv_sipush (v := iz 155) hx hb dX7_init_98 (by decide +kernel) ?_
  refine lv_iload_n hx hb dX7_init_101 rfl (lv_at hl 0 rfl) ?_
  refine g_iadd hx hb dX7_init_102 ?_
  refine W.eq (g2 := F0 m 103 ls [.int (iz 156), .ref x81]) rfl ?_
  refine lv_iconst (v := iz (-1)) hx hb dX7_init_103 rfl ?_
  refine g_astA (k := 81) (N := 161) (cs := []) (i := 156) (x := (-1)) hx hb G rfl (by decide) (by decide) (by decide) dX7_init_104 a81 (fun H locs G => ?_)
  refine g_iinc (k := 0) (x := 1) (n := 1) (lv' := [(1, .int (iz 2)), (0, .ref x80)]) hx hb dX7_init_105 hl rfl (by decide) rfl (fun ls hl => ?_)
  refine lv_goto (tgt := 88) hx hb dX7_init_108 (by decide) ?_
  refine lv_iload_n hx hb dX7_init_88 rfl (lv_at hl 0 rfl) ?_
  refine lv_bipush (v := iz 6) hx hb dX7_init_89 (by decide +kernel) ?_
  refine g_icmp_ge (tgt := 111) hx hb ⟨by decide, by decide⟩ ⟨by decide, by decide⟩ dX7_init_91 (by decide) (fun q => absurd q (by decide)) (fun _ => ?_)
  refine lv_aload_n hx hb dX7_init_94 rfl (lv_at hl 1 rfl) ?_
  refine g_getA (k := 80) (ci := 7) (cs := [84, 85, 0, 86, 0, 87, 88, 89, 90, 91, 92, 93, 0, 0, 0, 0, 1]) hx hb hts hown 0 81 inlX7 G rfl rfl (by decide) rfl wm_108 dX7_init_95 a80 a81 ?_
  refine lv_sipush (v := iz 155) hx hb dX7_init_98 (by decide +kernel) ?_
  refine lv_iload_n hx hb dX7_init_101 rfl (lv_at hl 0 rfl) ?_
  refine g_iadd hx hb dX7_init_102 ?_
  refine W.eq (g2 := F0 m 103 ls [.int (iz 157), .ref x81]) rfl ?_
  refine lv_iconst (v := iz (-1)) hx hb dX7_init_103 rfl ?_
  refine g_astA (k := 81) (N := 161) (cs := []) (i := 157) (x := (-1)) hx hb G rfl (by decide) (by decide) (by decide) dX7_init_104 a81 (fun H locs G => ?_)
  refine g_iinc (k := 0) (x := 2) (n := 1) (lv' := [(1, .int (iz 3)), (0, .ref x80)]) hx hb dX7_init_105 hl rfl (by decide) rfl (fun ls hl => ?_)
  refine lv_goto (tgt := 88) hx hb dX7_init_108 (by decide) ?_
  refine lv_iload_n hx hb dX7_init_88 rfl (lv_at hl 0 rfl) ?_
  refine lv_bipush (v := iz 6) hx hb dX7_init_89 (by decide +kernel) ?_
  refine g_icmp_ge (tgt := 111) hx hb ⟨by decide, by decide⟩ ⟨by decide, by decide⟩ dX7_init_91 (by decide) (fun q => absurd q (by decide)) (fun _ => ?_)
  refine lv_aload_n hx hb dX7_init_94 rfl (lv_at hl 1 rfl) ?_
  refine g_getA (k := 80) (ci := 7) (cs := [84, 85, 0, 86, 0, 87, 88, 89, 90, 91, 92, 93, 0, 0, 0, 0, 1]) hx hb hts hown 0 81 inlX7 G rfl rfl (by decide) rfl wm_108 dX7_init_95 a80 a81 ?_
  refine lv_sipush (v := iz 155) hx hb dX7_init_98 (by decide +kernel) ?_
  refine lv_iload_n hx hb dX7_init_101 rfl (lv_at hl 0 rfl) ?_
  refine g_iadd hx hb dX7_init_102 ?_
  refine W.eq (g2 := F0 m 103 ls [.int (iz 158), .ref x81]) rfl ?_
  refine lv_iconst (v := iz (-1)) hx hb dX7_init_103 rfl ?_
  refine g_astA (k := 81) (N := 161) (cs := []) (i := 158) (x := (-1)) hx hb G rfl (by decide) (by decide) (by decide) dX7_init_104 a81 (fun H locs G => ?_)
  refine g_iinc (k := 0) (x := 3) (n := 1) (lv' := [(1, .int (iz 4)), (0, .ref x80)]) hx hb dX7_init_105 hl rfl (by decide) rfl (fun ls hl => ?_)
  refine lv_goto (tgt := 88) hx hb dX7_init_108 (by decide) ?_
  refine lv_iload_n hx hb dX7_init_88 rfl (lv_at hl 0 rfl) ?_
  refine lv_bipush (v := iz 6) hx hb dX7_init_89 (by decide +kernel) ?_
  refine g_icmp_ge (tgt := 111) hx hb ⟨by decide, by decide⟩ ⟨by decide, by decide⟩ dX7_init_91 (by decide) (fun q => absurd q (by decide)) (fun _ => ?_)
  refine lv_aload_n hx hb dX7_init_94 rfl (lv_at hl 1 rfl) ?_
  refine g_getA (k := 80) (ci := 7) (cs := [84, 85, 0, 86, 0, 87, 88, 89, 90, 91, 92, 93, 0, 0, 0, 0, 1]) hx hb hts hown 0 81 inlX7 G rfl rfl (by decide) rfl wm_108 dX7_init_95 a80 a81 ?_
  refine lv_sipush (v := iz 155) hx hb dX7_init_98 (by decide +kernel) ?_
  refine lv_iload_n hx hb dX7_init_101 rfl (lv_at hl 0 rfl) ?_
  refine g_iadd hx hb dX7_init_102 ?_
  refine W.eq (g2 := F0 m 103 ls [.int (iz 159), .ref x81]) rfl ?_
  refine lv_iconst (v := iz (-1)) hx hb dX7_init_103 rfl ?_
  refine g_astA (k := 81) (N := 161) (cs := []) (i := 159) (x := (-1)) hx hb G rfl (by decide) (by decide) (by decide) dX7_init_104 a81 (fun H locs G => ?_)
  refine g_iinc (k := 0) (x := 4) (n := 1) (lv' := [(1, .int (iz 5)), (0, .ref x80)]) hx hb dX7_init_105 hl rfl (by decide) rfl (fun ls hl => ?_)
  refine lv_goto (tgt := 88) hx hb dX7_init_108 (by decide) ?_
  refine lv_iload_n hx hb dX7_init_88 rfl (lv_at hl 0 rfl) ?_
  refine lv_bipush (v := iz 6) hx hb dX7_init_89 (by decide +kernel) ?_
  refine g_icmp_ge (tgt := 111) hx hb ⟨by decide, by decide⟩ ⟨by decide, by decide⟩ dX7_init_91 (by decide) (fun q => absurd q (by decide)) (fun _ => ?_)
  refine lv_aload_n hx hb dX7_init_94 rfl (lv_at hl 1 rfl) ?_
  refine g_getA (k := 80) (ci := 7) (cs := [84, 85, 0, 86, 0, 87, 88, 89, 90, 91, 92, 93, 0, 0, 0, 0, 1]) hx hb hts hown 0 81 inlX7 G rfl rfl (by decide) rfl wm_108 dX7_init_95 a80 a81 ?_
  refine lv_sipush (v := iz 155) hx hb dX7_init_98 (by decide +kernel) ?_
  refine lv_iload_n hx hb dX7_init_101 rfl (lv_at hl 0 rfl) ?_
  refine g_iadd hx hb dX7_init_102 ?_
  refine W.eq (g2 := F0 m 103 ls [.int (iz 160), .ref x81]) rfl ?_
  refine lv_iconst (v := iz (-1)) hx hb dX7_init_103 rfl ?_
  refine g_astA (k := 81) (N := 161) (cs := []) (i := 160) (x := (-1)) hx hb G rfl (by decide) (by decide) (by decide) dX7_init_104 a81 (fun H locs G => ?_)
  refine g_iinc (k := 0) (x := 5) (n := 1) (lv' := [(1, .int (iz 6)), (0, .ref x80)]) hx hb dX7_init_105 hl rfl (by decide) rfl (fun ls hl => ?_)
  refine lv_goto (tgt := 88) hx hb dX7_init_108 (by decide) ?_
  refine lv_iload_n hx hb dX7_init_88 rfl (lv_at hl 0 rfl) ?_
  refine lv_bipush (v := iz 6) hx hb dX7_init_89 (by decide +kernel) ?_
  refine g_icmp_ge (tgt := 111) hx hb ⟨by decide, by decide⟩ ⟨by decide, by decide⟩ dX7_init_91 (by decide) (fun _ => ?_) (fun q => absurd (by decide) q)
  exact g_cret (n0 := 81) hx hb hr hlk rfl hz E G (Nat.le_of_ble_eq_true rfl) (Nat.le_of_ble_eq_true rfl) dX7_init_111
end
section
-- the law over a script of less than three ints
def lwE (mc ms : Nat) (below : List Frame) (s : State) (X : State → Prop) : State → Prop := fun t => ∃ o, t.status = .running ∧ Ended t below o ∧ o = .returned (some (.int 1)) ∧ Framed s o t [] mc ms ∧ X t
def lwA (p : Program) (s : State) (m : MethodId) (meth : Method) (c : Code) (b L : Nat) (xs : Nat → Int32) : Prop :=
  p.tables.exec = Jvm.exec ∧ c.code = code ∧ meth.sig.returnType = ret ∧ c.maxLocals = 4 ∧ s.vm.findClass RL = some m.cls ∧ (∀ w ∈ lw_tbl, w.before #[Value.ref b] s = true) ∧ va_X b L xs s s.heap ∧ b < s.heap.size ∧ meth.locks = false
abbrev lwF (s : State) : Nat → Prop := fun q => s.heap.size ≤ q
theorem g_lend {p : Program} {l : Launch} {e : Env} {R : Room} {s : State} {m : MethodId} {below : List Frame} {meth : Method} {c : Code} {b mc ms : Nat} {X : State → Prop} (hx : p.tables.exec = Jvm.exec) (hb : c.code = code) (hr : meth.sig.returnType = ret) (hlocks : meth.locks = false) {pc : Nat} {H : Heap} {ls : Array Slot} (hX : ∀ t : State, t.heap = H → X t) (hdg : decode code pc = .ok (.ireturn, 1)) : W p l e R s m #[Value.ref b] below meth c H [] mc ms (lwE mc ms below s X) (F0 m pc ls [.int 1]) := by
  intro T hT X
  obtain ⟨fs, hret, hrun, hended, hW, hframe⟩ := X.leave (v := some (.int 1)) (hlocks := hlocks) (fun h => by rw [hr] at h; cases h)
  have hmeth' : T.vm.method? m = some meth := X.method'
  refine ⟨T.setFrames fs, ?_, .returned (some (.int 1)), hrun, hended, rfl, ⟨⟨_, rfl⟩, hW, hframe⟩, hX _ hT⟩
  jvm_step X.here [X.here.top, hx, hb, hdg, hmeth', hr, ret, narrow_b1]
  (try refine ⟨rfl, ?_⟩); (try refine ⟨rfl, ?_⟩)
  first | (intro acts; rw [hret _ acts rfl rfl rfl]) | rw [hret _ _ rfl rfl rfl]
  exact Steps.refl _
-- the start: what the constructors leave
def sg_start (σ : St) : St := sg_Model_80 (ur (sg_Grammar_0 (ur σ 0 (fun _ => 0))) 80 (fun _ => 0))
set_option maxHeartbeats 4000000 in
set_option maxRecDepth 100000 in
/-- the whole run over a script of less than three ints: both constructors, and the end -/
theorem law_run0 {p : Program} {l : Launch} {e : Env} {R : Room} {s : State} {m : MethodId} {below : List Frame} {meth : Method} {c : Code} {b L : Nat} {xs : Nat → Int32} (hF : 9 ≤ R.frames) (hLo : 207 ≤ R.locals) (hcs : 91 ≤ R.cells ∧ 14351 ≤ R.slots) (hL : L < 3) (C0 : lwA p s m meth c b L xs) {X : State → Prop} (hXt : ∀ (w : GW) (σ : St) (H : Heap) (locs : List Loc), gS w gSL σ (lwF s) s s.heap H locs → ∀ t : State, t.heap = H → X t) : W p l e R s m #[Value.ref b] below meth c s.heap [] 0 0 (lwE 91 14351 below s X) (entryFrame m ([Value.ref b] : List Value).toArray 4) := by
  obtain ⟨hx, hb, hr, hml, hown, hts, hX, hbl, hlk⟩ := id C0
  have htsW : ∀ w ∈ wsL_law, w.before #[Value.ref b] s = true := fun w h => hts w (wsL_in w h)
  have hNw : gNw s := gNw_of hts
  have hA : ∀ q, s.heap.size ≤ q → lwF s q := fun _ h => h
  have hbA : ¬ lwF s b := Nat.not_le.mpr hbl
  have hao : aoS s := va_AO.of (hts _ t_ao)
  obtain ⟨c0, i0, k0⟩ := u_known (C := RX0) (T := TX0) (N := 1) (n := 1) htsW inlX0 (htsW _ wm_73)
  obtain ⟨c1, i1, k1⟩ := u_known (C := RX1) (T := TX1) (N := 3) (n := 3) htsW inlX1 (htsW _ wm_17)
  obtain ⟨c2, i2, k2⟩ := u_known (C := RX2) (T := TX2) (N := 5) (n := 5) htsW inlX2 (htsW _ wm_26)
  obtain ⟨c3, i3, k3⟩ := u_known (C := RX3) (T := TX3) (N := 16) (n := 16) htsW inlX3 (htsW _ wm_30)
  obtain ⟨c4, i4, k4⟩ := u_known (C := RX4) (T := TX4) (N := 1) (n := 1) htsW inlX4 (htsW _ wm_21)
  obtain ⟨c5, i5, k5⟩ := u_known (C := RX5) (T := TX5) (N := 5) (n := 5) htsW inlX5 (htsW _ wm_13)
  obtain ⟨c6, i6, k6⟩ := u_known (C := RX6) (T := TX6) (N := 8) (n := 8) htsW inlX6 (htsW _ wm_1)
  obtain ⟨c7, i7, k7⟩ := u_known (C := RX7) (T := TX7) (N := 17) (n := 17) htsW inlX7 (htsW _ wm_4)
  obtain ⟨cI, kI, cmI, fI1, fI2, fI3⟩ := Cond.arrayClass_spec (htsW _ wm_49)
  obtain ⟨cmS, cS, kS, fS1, fS2, fS3, fS4, fS5⟩ := Cond.arrayOver_spec (hts _ t_ao)
  obtain ⟨w, hw2, hw3, hwK⟩ : ∃ w : GW, w.2.1 = cI ∧ w.2.2.1 = cS ∧ ∀ (k : Nat) (q : vw_C), vwCl[k]? = some q → u_Kn s q.1 q.2.1 q.2.2 (w.1.1 k) (w.1.2 k) := by
    refine ⟨((fun k => ([c0, c1, c2, c3, c4, c5, c6, c7] : List ClassId).getD k c0, fun k => ([i0, i1, i2, i3, i4, i5, i6, i7] : List (Nat → Nat)).getD k i0), cI, cS, fun _ => 0), rfl, rfl, ?_⟩
    intro k q hq
    match k, hq with
    | 0, hq => cases hq; exact k0
    | 1, hq => cases hq; exact k1
    | 2, hq => cases hq; exact k2
    | 3, hq => cases hq; exact k3
    | 4, hq => cases hq; exact k4
    | 5, hq => cases hq; exact k5
    | 6, hq => cases hq; exact k6
    | 7, hq => cases hq; exact k7
    | k + 8, hq => simp [vwCl] at hq
  have hK : va_K w.1 vwCl (gT w) s := ⟨hwK, fun k q hq => by
    match k, hq with
    | 0, hq =>
      cases hq
      rw [hw2]
      exact ⟨fun n z => ⟨fun k h => (by cases h), kI, fI2, cmI, fI3⟩, fI1⟩
    | 1, hq =>
      cases hq
      rw [hw3]
      exact ⟨fun n z => ⟨fun k h => (by cases h), kS, fS3, cmS, fS4⟩, kS, cmS, fS3, fS4, fS1, fS5⟩
    | k + 2, hq => simp [gT] at hq⟩
  obtain ⟨g, hgd⟩ : ∃ g : Nat → Nat, g = gad w := ⟨_, rfl⟩
  have G : gS (gw w g) [] (fun _ _ => 0) (lwF s) s s.heap s.heap [] := ⟨hK, fun k q h => by simp [gW] at h, ⟨fun i j p q h => by simp [gW] at h, fun k q h => by simp [gW] at h⟩, va_S.rf⟩
  have hl := lv_entry ([.ref b]) (n := 4) (Nat.le_of_ble_eq_true rfl)
  rw [lg_entry_eq]
  generalize (lg_sl ([.ref b]) ++ List.replicate (4 - (lg_sl ([.ref b])).length) Slot.unset).toArray = ls at hl ⊢
  have hl : lv_has ls 4 [(0, .ref b)] := hl
  refine g_newO (n := 0) (ci := 6) (C := RX6) (T := TX6) (N := 8) hx hb htsW hown [2, 2, 2, 2, 2, 2, 0, 0] inlX6 tyX6 tyX6_ok G hA rfl (by decide +kernel) rfl (fun j hj => by rcases (show j = 0 ∨ j = 1 ∨ j = 2 ∨ j = 3 ∨ j = 4 ∨ j = 5 ∨ j = 6 ∨ j = 7 by omega) with rfl | rfl | rfl | rfl | rfl | rfl | rfl | rfl <;> rfl) (by decide) wm_0 wm_1 wm_2 (Nat.le_trans (Nat.le_of_ble_eq_true rfl) hcs.1) (Nat.le_trans (Nat.le_of_ble_eq_true rfl) hcs.2) dL_law_0 (show _ = WL0 from rfl) (fun g x0 H a0 hg G => ?_)
  refine W.widen (k := 1) (n := 8) (Nat.le_of_ble_eq_true rfl) (Nat.le_of_ble_eq_true rfl) ?_
  refine lv_dup hx hb dL_law_3 rfl ?_
  refine g_callC (n := 0) (rest := [.ref x0]) (n0 := 1) hx hb hml htsW hown hNw hao hA G [] (cc_Grammar_0 l w _ _ _ x0 a0) rfl wm_6 wm_7 wm_2 wm_8 rfl ⟨by decide +kernel, by decide +kernel, by decide +kernel⟩ ⟨rfl, rfl, Nat.le_trans (show 4 + 1 ≤ 9 from (Nat.le_of_ble_eq_true rfl)) hF, Nat.le_trans (show 8 + (1 + 11) + 73 ≤ 207 from (Nat.le_of_ble_eq_true rfl)) hLo⟩ rfl hl.1 (Nat.le_of_ble_eq_true rfl) rfl dL_law_4 ⟨Nat.le_trans (Nat.le_of_ble_eq_true rfl) hcs.1, Nat.le_trans (Nat.le_of_ble_eq_true rfl) hcs.2⟩ (fun g H locs hg G => ?_)
  have a0 := (hg 0 (Nat.le_of_ble_eq_true rfl)).trans a0
  refine W.widen (k := 80) (n := 7564) (Nat.le_of_ble_eq_true rfl) (Nat.le_of_ble_eq_true rfl) ?_
  refine lv_astore_n (lv' := [(1, .ref x0), (0, .ref b)]) hx hb dL_law_7 rfl hl (by decide) rfl (fun ls hl => ?_)
  refine g_newO (n := 80) (ci := 7) (C := RX7) (T := TX7) (N := 17) hx hb htsW hown [2, 2, 0, 2, 0, 2, 2, 2, 2, 2, 2, 2, 0, 0, 0, 0, 1] inlX7 tyX7 tyX7_ok G hA rfl (by decide +kernel) rfl (fun j hj => by rcases (show j = 0 ∨ j = 1 ∨ j = 2 ∨ j = 3 ∨ j = 4 ∨ j = 5 ∨ j = 6 ∨ j = 7 ∨ j = 8 ∨ j = 9 ∨ j = 10 ∨ j = 11 ∨ j = 12 ∨ j = 13 ∨ j = 14 ∨ j = 15 ∨ j = 16 by omega) with rfl | rfl | rfl | rfl | rfl | rfl | rfl | rfl | rfl | rfl | rfl | rfl | rfl | rfl | rfl | rfl | rfl <;> rfl) (by decide) wm_3 wm_4 wm_5 (Nat.le_trans (Nat.le_of_ble_eq_true rfl) hcs.1) (Nat.le_trans (Nat.le_of_ble_eq_true rfl) hcs.2) dL_law_8 (show _ = WL128 from rfl) (fun g x80 H a80 hg G => ?_)
  have a0 := (hg 0 (Nat.le_of_ble_eq_true rfl)).trans a0
  refine W.widen (k := 81) (n := 7581) (Nat.le_of_ble_eq_true rfl) (Nat.le_of_ble_eq_true rfl) ?_
  refine lv_dup hx hb dL_law_11 rfl ?_
  refine g_callC (n := 0) (rest := [.ref x80]) (n0 := 81) hx hb hml htsW hown hNw hao hA G [] (cc_Model_80 l w _ _ _ x80 a80) rfl wm_104 wm_105 wm_5 wm_106 rfl ⟨by decide +kernel, by decide +kernel, by decide +kernel⟩ ⟨rfl, rfl, Nat.le_trans (show 1 + 1 ≤ 9 from (Nat.le_of_ble_eq_true rfl)) hF, Nat.le_trans (show 8 + (2 + 11) + 12 ≤ 207 from (Nat.le_of_ble_eq_true rfl)) hLo⟩ rfl hl.1 (Nat.le_of_ble_eq_true rfl) rfl dL_law_12 ⟨Nat.le_trans (Nat.le_of_ble_eq_true rfl) hcs.1, Nat.le_trans (Nat.le_of_ble_eq_true rfl) hcs.2⟩ (fun g H locs hg G => ?_)
  have a0 := (hg 0 (Nat.le_of_ble_eq_true rfl)).trans a0
  have a80 := (hg 80 (Nat.le_of_ble_eq_true rfl)).trans a80
  refine W.widen (k := 91) (n := 14351) (Nat.le_of_ble_eq_true rfl) (Nat.le_of_ble_eq_true rfl) ?_
  refine lv_astore_n (lv' := [(2, .ref x80), (1, .ref x0), (0, .ref b)]) hx hb dL_law_15 rfl hl (by decide) rfl (fun ls hl => ?_)
  refine lv_iconst (v := iz 0) hx hb dL_law_16 rfl ?_
  refine lv_istore_n (lv' := [(3, .int (iz 0)), (2, .ref x80), (1, .ref x0), (0, .ref b)]) hx hb dL_law_17 rfl hl (by decide) rfl (fun ls hl => ?_)
  have e0 : x0 = gad (gw w g) 0 := a0.symm
  have e80 : x80 = gad (gw w g) 80 := a80.symm
  rw [e0, e80] at hl
  refine lv_iload_n hx hb dL_law_18 rfl (lv_at hl 0 rfl) ?_
  refine lv_aload_n hx hb dL_law_19 rfl (lv_at hl 3 rfl) ?_
  refine va_slen hx hb hX hbl hbA G.2.2.2 dL_law_20 ?_
  rw [show Int32.ofNat L = iz (L : Int) from Int32.ofInt_eq_ofNat.symm]
  refine lv_iconst (v := iz 3) hx hb dL_law_21 rfl ?_
  refine g_isub hx hb dL_law_22 ?_
  refine g_icmp_gt (tgt := 791) hx hb ⟨by omega, by omega⟩ ⟨by omega, by omega⟩ dL_law_23 (by decide) (fun q => ?_) (fun q => ?_)
  · refine lv_iconst (v := 1) hx hb dL_law_791 rfl ?_
    refine va_forget (fun q h => G.2.2.2.2.2 q h) ?_
    exact g_lend hx hb hr hlk (fun t ht => hXt (gw w g) _ H _ G t ht) dL_law_792
  · exact absurd (show (L : Int) - 3 < 0 by omega) q
end
section
-- the statement as printed is false: both constructors together make more slots (14351) than its room and its frame allow (12337)
def kArr : List (Nat × Nat) := [(3, 100), (5, 6), (7, 48), (9, 6), (14, 100), (16, 6), (18, 48), (20, 6), (23, 100), (25, 6), (27, 48), (29, 6), (32, 100), (34, 6), (36, 48), (38, 6), (41, 100), (43, 6), (45, 48), (47, 6), (49, 8), (51, 3), (54, 101), (56, 101), (58, 101), (60, 5454), (63, 100), (65, 100), (67, 100), (69, 100), (71, 100), (73, 100), (75, 100), (77, 100), (79, 100), (81, 161), (82, 644), (83, 8), (84, 3), (85, 5454), (86, 100), (87, 100), (88, 100), (89, 100), (90, 100)]
theorem kArr_ok : ∀ q ∈ kArr, ∃ cs, gSL[q.1]? = some (0, q.2, cs) := by
  have h : kArr.all (fun q => decide (gSL[q.1]? = some (0, q.2, []))) = true := by decide +kernel
  exact fun q hq => ⟨[], of_decide_eq_true (List.all_eq_true.mp h q hq)⟩
theorem kArr_nd : (kArr.map Prod.fst).Nodup := by decide +kernel
theorem kArr_sum : (kArr.map Prod.snd).sum = 14238 := by decide +kernel
theorem sum_at : ∀ (L : List Nat) (j n : Nat), L[j]? = some n → L.sum = n + (L.set j 0).sum := by
  intro L
  induction L with
  | nil => intro j n h; simp at h
  | cons a L ih =>
    intro j n h
    cases j with
    | zero =>
      simp at h
      subst h
      simp
    | succ j =>
      have h : L[j]? = some n := by simpa using h
      have := ih j n h
      show (a :: L).sum = n + (a :: L.set j 0).sum
      rw [List.sum_cons, List.sum_cons, this]
      omega
theorem sum_low : ∀ (js : List (Nat × Nat)) (L : List Nat), (js.map Prod.fst).Nodup → (∀ q ∈ js, L[q.1]? = some q.2) → (js.map Prod.snd).sum ≤ L.sum := by
  intro js
  induction js with
  | nil => intro L _ _; exact Nat.zero_le _
  | cons q js ih =>
    intro L hn h
    obtain ⟨h1, h2⟩ := List.nodup_cons.mp hn
    have e := sum_at L q.1 q.2 (h q List.mem_cons_self)
    have := ih (L.set q.1 0) h2 (fun x hx => by
      have hne : q.1 ≠ x.1 := fun z => h1 (by rw [z]; exact List.mem_map_of_mem hx)
      rw [List.getElem?_set_ne hne]
      exact h x (List.mem_cons_of_mem _ hx))
    show (q.2 :: js.map Prod.snd).sum ≤ _
    rw [List.sum_cons, e]
    omega
theorem nd_map {f : Nat → Nat} : ∀ K : List (Nat × Nat), (K.map Prod.fst).Nodup → (∀ a ∈ K, ∀ b ∈ K, f a.1 = f b.1 → a.1 = b.1) → (K.map (fun q => f q.1)).Nodup := by
  intro K
  induction K with
  | nil => intro _ _; exact List.nodup_nil
  | cons q K ih =>
    intro hn h
    obtain ⟨h1, h2⟩ := List.nodup_cons.mp hn
    refine List.nodup_cons.mpr ⟨fun z => ?_, ih h2 (fun a ha b hb => h a (List.mem_cons_of_mem _ ha) b (List.mem_cons_of_mem _ hb))⟩
    obtain ⟨x, hx, e⟩ := List.mem_map.mp z
    have := h x (List.mem_cons_of_mem _ hx) q List.mem_cons_self e
    exact h1 (by rw [← this]; exact List.mem_map_of_mem hx)
/-- what a run leaves: the cells of class and reference, apart and new -/
def bigX (s : State) (t : State) : Prop := ∃ (w : GW) (σ : St), va_P w.1 vwCl (gW w gSL σ) t.heap ∧ va_D (lwF s) (gW w gSL σ)
theorem big_slots {s t : State} (h : bigX s t) : 14238 ≤ ((t.heap.toList.drop s.heap.size).map (·.slots.size)).sum := by
  obtain ⟨w, σ, hP, hD⟩ := h
  have key : ∀ q ∈ kArr, s.heap.size ≤ gad w q.1 ∧ ∃ c : Cell, t.heap[gad w q.1]? = some c ∧ c.slots.size = q.2 := by
    intro q hq
    obtain ⟨cs, hs⟩ := kArr_ok q hq
    have ha := gW_at (w := w) (σ := σ) hs
    refine ⟨hD.2 q.1 _ ha, _, hP q.1 _ ha, ?_⟩
    show (arrV _ _ _).slots.size = q.2
    rw [arrV_size]
  have inj : ∀ a ∈ kArr, ∀ b ∈ kArr, (fun k => gad w k - s.heap.size) a.1 = (fun k => gad w k - s.heap.size) b.1 → a.1 = b.1 := by
    intro a ha b hb e
    have h1 := (key a ha).1
    have h2 := (key b hb).1
    have e : gad w a.1 - s.heap.size = gad w b.1 - s.heap.size := e
    obtain ⟨c1, g1⟩ := kArr_ok a ha
    obtain ⟨c2, g2⟩ := kArr_ok b hb
    exact hD.1 a.1 b.1 _ _ (gW_at g1) (gW_at g2) (by show gad w a.1 = gad w b.1; omega)
  have hn := nd_map (f := fun k => gad w k - s.heap.size) kArr kArr_nd inj
  have e1 : ((kArr.map (fun q => (gad w q.1 - s.heap.size, q.2))).map Prod.fst) = kArr.map (fun q => gad w q.1 - s.heap.size) := by rw [List.map_map]; rfl
  have e2 : ((kArr.map (fun q => (gad w q.1 - s.heap.size, q.2))).map Prod.snd) = kArr.map Prod.snd := by rw [List.map_map]; rfl
  have := sum_low (kArr.map (fun q => (gad w q.1 - s.heap.size, q.2))) ((t.heap.toList.drop s.heap.size).map (·.slots.size)) (by rw [e1]; exact hn) (fun x hx => by
    obtain ⟨q, hq, rfl⟩ := List.mem_map.mp hx
    obtain ⟨h1, c, h2, h3⟩ := key q hq
    show ((t.heap.toList.drop s.heap.size).map (·.slots.size))[gad w q.1 - s.heap.size]? = some q.2
    rw [List.getElem?_map, List.getElem?_drop, show s.heap.size + (gad w q.1 - s.heap.size) = gad w q.1 by omega, Array.getElem?_toList, h2]
    exact congrArg some h3)
  rw [e2, kArr_sum] at this
  exact this
def room_9 : Room := { frames := 11, cells := 91, slots := 14351, locals := 414 }
def lr_P (b : Addr) (xs : List Int32) (args : Array Value) (s : State) : Prop := args = #[.ref b] ∧ s.IntsAt b xs ∧ xs.length < 3
def lr_Q (_ : Array Value) (s : State) (o : Outcome) (t : State) : Prop := o = .returned (some (.int 1)) ∧ Framed s o t [] 91 14351 ∧ bigX s t
set_option maxHeartbeats 4000000 in
theorem lr_walk (l : Launch) (b : Addr) (xs : List Int32) : MetFree l x (headSpec (Jvm.Cond.code x code maxLocals ret :: tables_1) room_9) (lr_P b xs) (fun _ _ _ _ _ => True) lr_Q := by
  refine MetFree.of_bodyS (code := code) (maxLocals := maxLocals) (ret := ret) (by decide) ?_ ?_
  · intro args s m h hn
    obtain ⟨meth, c, h1, h2, h3, h4, h5, h6, -, -⟩ := Cond.code_spec hn (atoms_spec (ws := Jvm.Cond.code x code maxLocals ret :: tables_1) h _ List.mem_cons_self)
    exact ⟨meth, c, h1, h2, h3, h4, h5, h6⟩
  · intro p e s m args below meth c s₁ B hml0 hP _
    obtain ⟨rfl, hx, hbd⟩ := hP
    obtain ⟨scr, harrAt, hlist, hof, hsmall⟩ := hx
    obtain ⟨hcb, hkn, -, -⟩ := State.arrayAt?_spec harrAt
    have hown : s.vm.findClass RL = some m.cls := findClass_of_methodNamed B.named
    have hts0 : ∀ c ∈ (Jvm.Cond.code x code maxLocals ret :: tables_1), c.before #[Value.ref b] s = true := atoms_spec (ws := Jvm.Cond.code x code maxLocals ret :: tables_1) B.pre
    have hts : ∀ w ∈ lw_tbl, w.before #[Value.ref b] s = true := k2_hts_sels lw_privs (fun w hw => hts0 w (List.mem_cons_of_mem _ hw)) lw_privs_ok
    have hml : c.maxLocals = 4 := B.maxLocals_eq (hts0 _ List.mem_cons_self)
    have X₀ : Stand p l e room_9 s m #[Value.ref b] below meth c s₁ [] 0 0 := Stand.of_body B
    have hh0 : s₁.heap = s.heap := by rw [B.state]; rfl
    have hsz : scr.slots.size = xs.length := by rw [← Array.length_toList, hlist, List.length_map]
    have hval : ∀ j : Nat, j < xs.length → scr.slots[j]? = some (.int (xs.getD j 0)) := fun j hj => by
      rw [← Array.getElem?_toList, hlist]
      simp [hj]
    have hbl : b < s.heap.size := (Array.getElem?_eq_some_iff.mp hcb).1
    have hX : va_X b xs.length (fun j => xs.getD j 0) s s.heap := ⟨scr, hcb, hof, hkn, hsz, hval⟩
    have K : W p l e room_9 s m #[Value.ref b] below meth c s₁.heap [] 0 0 (lwE 91 14351 below s (bigX s)) (entryFrame m ([Value.ref b] : List Value).toArray 4) := by
      rw [hh0]
      exact law_run0 (R := room_9) (by decide) (by decide) ⟨by decide, by decide⟩ hbd ⟨B.exec, B.bytes, B.returns, hml, hown, hts, hX, hbl, B.notSynchronized⟩ (fun w σ H locs G t ht => ⟨w, σ, by rw [ht]; exact G.2.1, G.2.2.1⟩)
    obtain ⟨t, a1, o, b1, b2, b3, b4, b5⟩ := K s₁ rfl X₀
    exact ⟨t, o, a1, b1, b2, b3, b4, b5⟩
theorem lr_pre {args : Array Value} {s : State} (h : (Jvm.Cond.and given_1 narrow_1).before args s = true) (hr : rest_1_c.before args s = true) (hz : ∀ (b : Addr) (k : Cell), args[0]? = some (.ref b) → s.heap[b]? = some k → k.slots.size < 3) : ∃ (b : Addr) (xs : List Int32), lr_P b xs args s := by
  have hs := flat_of_before _ h
  have hq := flat_of_before _ hr
  have hc : (Cond.count 1).before args s = true := hs _ (by decide +kernel)
  have harr : (Cond.arrayOf (.arg 0) .int).before args s = true := hs _ (by decide +kernel)
  have hlen : (Cond.isInt (.length (.arg 0))).before args s = true := hq _ (by decide +kernel)
  have hall : (Cond.all (.arg 0) (.isInt (.elem (.arg 0) (.index 0)))).before args s = true := hq _ (by decide +kernel)
  obtain ⟨b, xs, hb, hx⟩ := State.ints_of_pre rfl harr hlen hall
  have hb : args[0]? = some (.ref b) := hb
  refine ⟨b, xs, Cond.one_arg hc hb, hx, ?_⟩
  obtain ⟨scr, harrAt, hlist, hof, hsmall⟩ := hx
  obtain ⟨hcb, hkn, -, -⟩ := State.arrayAt?_spec harrAt
  have h1 := hz b scr hb hcb
  rwa [← Array.length_toList, hlist, List.length_map] at h1
theorem not_framed {s t : State} {o : Outcome} {L : List Loc} (h : bigX s t) : ¬ Framed s o t L 91 12337 := by
  intro hF
  have h1 := big_slots h
  have h2 : ((t.heap.toList.drop s.heap.size).map (·.slots.size)).sum ≤ 12337 := hF.2.2.2.2.2.2.1
  omega
/-- at every start of the statement with a script of less than three ints at which the machine has room for 14351 slots, the law's own end is outside the statement's frame -/
theorem falls_of {l : Launch} {p : Program} {e : Env} {s : State} {m : MethodId} {args : Array Value} {below : List Frame} (hf : l.flags = flags0) (h : AtStart classFile x code maxLocals ret World_1 tables_1 room_1 Calls_1 rest_1 Pre_1 l p e s m args below) (hr : (headSpec (Jvm.Cond.code x code maxLocals ret :: tables_1) room_9).applies x e.platform s = true) (hz : ∀ (b : Addr) (k : Cell), args[0]? = some (.ref b) → s.heap[b]? = some k → k.slots.size < 3) : RefutedClaimed_1_1 ∧ RefutedClaimed_1_2 ∧ ¬ Claimed_1_1 ∧ ¬ Claimed_1_2 := by
  obtain ⟨h1, h2, h3, h4, h5, h6, h7, h8, h9, h10, h11, h12, h13⟩ := id h
  obtain ⟨b, xs, hP⟩ := lr_pre h13 h12 hz
  obtain ⟨n, o, g1, g2, g3, g4, g5, g6⟩ := lr_walk l b xs p e h3 h5 h6 s m args below h7 ((Spec.applies_iff_loose h7).mp hr).1 hP trivial
  refine ⟨⟨l, p, e, s, m, args, below, hf, h, n, o, g1, g2, g3, fun z => not_framed g6 z.2⟩, ⟨l, p, e, s, m, args, below, hf, h, n, o, g1, g2, g3, fun z => not_framed g6 z.2⟩, fun z => ?_, fun z => ?_⟩
  · obtain ⟨n2, o2, k1, k2, k3, k4⟩ := z l hf h1 h2 p e h3 h5 h6 s m args below h7 h8 h9 h10 ⟨h11, h12, h13⟩
    obtain ⟨en, eo⟩ := the_end_unique (f := fun k => stepsAlone p.tables e k s) g1 g3 k1 k3
    subst en
    exact not_framed g6 k4.2
  · obtain ⟨n2, o2, k1, k2, k3, k4⟩ := z l hf h1 h2 p e h3 h5 h6 s m args below h7 h8 h9 h10 ⟨h11, h12, h13⟩
    obtain ⟨en, eo⟩ := the_end_unique (f := fun k => stepsAlone p.tables e k s) g1 g3 k1 k3
    subst en
    exact not_framed g6 k4.2
end
section
-- only in a whole round: the witness's tables stand there. The same start, with an array of no ints as the script: the statement as printed is false there
def ab0 : State := start1.aboutOf #[]
def onT (w : Cond) : Bool := w.onTables || goodWord w
set_option maxRecDepth 100000 in
theorem ab0_rest_1 : tables_1_1.all (fun w => onT w || w.before start1.args0 ab0) = true := by decide +kernel
set_option maxRecDepth 100000 in
theorem ab0_rest_2 : tables_1_2.all (fun w => onT w || w.before start1.args0 ab0) = true := by decide +kernel
set_option maxRecDepth 100000 in
theorem ab0_rest_3 : tables_1_3.all (fun w => onT w || w.before start1.args0 ab0) = true := by decide +kernel
set_option maxRecDepth 100000 in
theorem ab0_rest_4 : tables_1_4.all (fun w => onT w || w.before start1.args0 ab0) = true := by decide +kernel
theorem ab0_one {c : Cond} (h : (onT c || c.before start1.args0 ab0) = true) (hb : c.before start1.args0 start1.about = true) : c.before start1.args0 ab0 = true := by
  by_cases hT : onT c = true
  · by_cases ho : c.onTables = true
    · exact va_tabs ho (u := start1.about) (U := ab0) rfl hb
    · have hg : goodWord c = true := by simpa [onT, ho] using hT
      exact word_at (s := start1.about) (U := ab0) (State.WarmedH.refl _) (good_of_word hg) hb
  · simpa [hT] using h
theorem ab0_words : ∀ c ∈ (Jvm.Cond.code x code maxLocals ret :: tables_1), c.before start1.args0 ab0 = true := by
  intro c hc
  refine ab0_one ?_ (start1.words c hc)
  rcases List.mem_cons.mp hc with h | h
  · rw [h]; rfl
  · have h1 : c ∈ tables_1_1 ++ (tables_1_2 ++ (tables_1_3 ++ tables_1_4)) := h
    rcases List.mem_append.mp h1 with h2 | h1
    · exact List.all_eq_true.mp ab0_rest_1 c h2
    rcases List.mem_append.mp h1 with h2 | h1
    · exact List.all_eq_true.mp ab0_rest_2 c h2
    rcases List.mem_append.mp h1 with h2 | h1
    · exact List.all_eq_true.mp ab0_rest_3 c h2
    exact List.all_eq_true.mp ab0_rest_4 c h1
set_option maxRecDepth 16384 in
theorem ab0_start : AtStart classFile x code maxLocals ret World_1 tables_1 room_1 Calls_1 rest_1 Pre_1 launch0 start1.p0 start1.e0 ab0 ⟨0, 0⟩ start1.args0 Lib.HandBits.below0 :=
  ⟨lists_1, trivial, launch0.admits_env _ _ _, launch0.least_env, fairChoices_fair.cas, fairChoices_fair.clock, rfl, by decide +kernel, by decide +kernel,
    (Spec.applies_iff rfl).mpr ⟨rfl, rfl, rfl, by decide +kernel, by decide +kernel, by decide +kernel, launch0.hasRoom_least _ room_1 (by decide +kernel) (by decide +kernel) (by decide +kernel) (by decide +kernel) (by decide +kernel) (by decide +kernel), atoms_intro ab0_words⟩,
    trivial, (show rest_1_c.before start1.args0 ab0 = true by decide +kernel), (show (Cond.and given_1 narrow_1).before start1.args0 ab0 = true by decide +kernel)⟩
set_option maxRecDepth 16384 in
theorem refuted : RefutedClaimed_1_1 ∧ RefutedClaimed_1_2 ∧ ¬ Claimed_1_1 ∧ ¬ Claimed_1_2 :=
  falls_of (l := launch0) rfl ab0_start ((Spec.applies_iff rfl).mpr ⟨rfl, rfl, rfl, by decide +kernel, by decide +kernel, by decide +kernel, launch0.hasRoom_least _ room_9 (by decide +kernel) (by decide +kernel) (by decide +kernel) (by decide +kernel) (by decide +kernel) (by decide +kernel), atoms_intro ab0_words⟩) (fun b k hb hk => by
    have hb : some (Value.ref 0) = some (.ref b) := hb
    cases hb
    have hk : some ({ cls := 12, slots := #[], vm := .none } : Cell) = some k := hk
    cases hk
    decide)
theorem i_vc : Claimed_1_1 ∧ Claimed_1_2 := sorry
end
