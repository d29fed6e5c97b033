section
-- ===== PART A: goes FIRST, ahead of the names: the tables' words, and 'selects' of the private methods out of them =====
/-- a private method of a class that the tables say can be made, by its rows of tables_1 -/
def lw_okq (q : MethodName × Nat) : Prop := (q.1.cls ≠ "java/lang/invoke/MethodHandle" ∧ q.1.cls ≠ "java/lang/invoke/VarHandle") ∧ Cond.instantiable q.1.cls q.2 ∈ tables_1 ∧ Cond.privateMethod q.1 ∈ tables_1 ∧ Cond.instanceMethod q.1 ∈ tables_1
theorem lw_p0 : lw_okq (⟨"IslandGrammar", "fail", "(I)I"⟩, 8) := ⟨⟨by decide +kernel, by decide +kernel⟩, List.mem_of_getElem? (i := 11) (by decide +kernel), List.mem_of_getElem? (i := 204) (by decide +kernel), List.mem_of_getElem? (i := 205) (by decide +kernel)⟩
theorem lw_p1 : lw_okq (⟨"IslandGrammar", "prepareChange", "()V"⟩, 8) := ⟨⟨by decide +kernel, by decide +kernel⟩, List.mem_of_getElem? (i := 11) (by decide +kernel), List.mem_of_getElem? (i := 216) (by decide +kernel), List.mem_of_getElem? (i := 217) (by decide +kernel)⟩
theorem lw_p2 : lw_okq (⟨"IslandGrammar$History", "slotAt", "(I)LIslandGrammar$State;"⟩, 3) := ⟨⟨by decide +kernel, by decide +kernel⟩, List.mem_of_getElem? (i := 56) (by decide +kernel), List.mem_of_getElem? (i := 224) (by decide +kernel), List.mem_of_getElem? (i := 225) (by decide +kernel)⟩
theorem lw_p3 : lw_okq (⟨"IslandGrammar", "isInText", "(I)Z"⟩, 8) := ⟨⟨by decide +kernel, by decide +kernel⟩, List.mem_of_getElem? (i := 11) (by decide +kernel), List.mem_of_getElem? (i := 250) (by decide +kernel), List.mem_of_getElem? (i := 251) (by decide +kernel)⟩
theorem lw_p4 : lw_okq (⟨"IslandGrammar", "refresh", "()V"⟩, 8) := ⟨⟨by decide +kernel, by decide +kernel⟩, List.mem_of_getElem? (i := 11) (by decide +kernel), List.mem_of_getElem? (i := 335) (by decide +kernel), List.mem_of_getElem? (i := 336) (by decide +kernel)⟩
theorem lw_p5 : lw_okq (⟨"IslandGrammar$Matcher", "markRuns", "(I)V"⟩, 5) := ⟨⟨by decide +kernel, by decide +kernel⟩, List.mem_of_getElem? (i := 77) (by decide +kernel), List.mem_of_getElem? (i := 344) (by decide +kernel), List.mem_of_getElem? (i := 345) (by decide +kernel)⟩
theorem lw_p6 : lw_okq (⟨"IslandGrammar$Matcher", "matchIslands", "(I)V"⟩, 5) := ⟨⟨by decide +kernel, by decide +kernel⟩, List.mem_of_getElem? (i := 77) (by decide +kernel), List.mem_of_getElem? (i := 360) (by decide +kernel), List.mem_of_getElem? (i := 361) (by decide +kernel)⟩
theorem lw_p7 : lw_okq (⟨"IslandGrammar$Matcher", "matchRests", "(II)V"⟩, 5) := ⟨⟨by decide +kernel, by decide +kernel⟩, List.mem_of_getElem? (i := 77) (by decide +kernel), List.mem_of_getElem? (i := 379) (by decide +kernel), List.mem_of_getElem? (i := 380) (by decide +kernel)⟩
theorem lw_p8 : lw_okq (⟨"IslandGrammar$Matcher", "waterRestEnd", "(III)I"⟩, 5) := ⟨⟨by decide +kernel, by decide +kernel⟩, List.mem_of_getElem? (i := 77) (by decide +kernel), List.mem_of_getElem? (i := 383) (by decide +kernel), List.mem_of_getElem? (i := 384) (by decide +kernel)⟩
theorem lw_p9 : lw_okq (⟨"IslandGrammar$Nodes", "clear", "()V"⟩, 16) := ⟨⟨by decide +kernel, by decide +kernel⟩, List.mem_of_getElem? (i := 111) (by decide +kernel), List.mem_of_getElem? (i := 392) (by decide +kernel), List.mem_of_getElem? (i := 393) (by decide +kernel)⟩
theorem lw_p10 : lw_okq (⟨"IslandGrammar$Nodes", "takeTopLevel", "(I)I"⟩, 16) := ⟨⟨by decide +kernel, by decide +kernel⟩, List.mem_of_getElem? (i := 111) (by decide +kernel), List.mem_of_getElem? (i := 398) (by decide +kernel), List.mem_of_getElem? (i := 399) (by decide +kernel)⟩
theorem lw_p11 : lw_okq (⟨"IslandGrammar$Nodes", "announce", "(III)V"⟩, 16) := ⟨⟨by decide +kernel, by decide +kernel⟩, List.mem_of_getElem? (i := 111) (by decide +kernel), List.mem_of_getElem? (i := 409) (by decide +kernel), List.mem_of_getElem? (i := 410) (by decide +kernel)⟩
theorem lw_p12 : lw_okq (⟨"IslandGrammar$Nodes", "addNode", "(I)V"⟩, 16) := ⟨⟨by decide +kernel, by decide +kernel⟩, List.mem_of_getElem? (i := 111) (by decide +kernel), List.mem_of_getElem? (i := 419) (by decide +kernel), List.mem_of_getElem? (i := 420) (by decide +kernel)⟩
theorem lw_p13 : lw_okq (⟨"IslandGrammar$Nodes", "walkPattern", "(I)V"⟩, 16) := ⟨⟨by decide +kernel, by decide +kernel⟩, List.mem_of_getElem? (i := 111) (by decide +kernel), List.mem_of_getElem? (i := 423) (by decide +kernel), List.mem_of_getElem? (i := 424) (by decide +kernel)⟩
theorem lw_p14 : lw_okq (⟨"IslandGrammar$Nodes", "walkWater", "(III)I"⟩, 16) := ⟨⟨by decide +kernel, by decide +kernel⟩, List.mem_of_getElem? (i := 111) (by decide +kernel), List.mem_of_getElem? (i := 429) (by decide +kernel), List.mem_of_getElem? (i := 430) (by decide +kernel)⟩
theorem lw_p15 : lw_okq (⟨"IslandGrammarModel", "fail", "(I)I"⟩, 17) := ⟨⟨by decide +kernel, by decide +kernel⟩, List.mem_of_getElem? (i := 599) (by decide +kernel), List.mem_of_getElem? (i := 667) (by decide +kernel), List.mem_of_getElem? (i := 668) (by decide +kernel)⟩
def lw_privs_1 : List (MethodName × Nat) := [(⟨"IslandGrammar", "fail", "(I)I"⟩, 8), (⟨"IslandGrammar", "prepareChange", "()V"⟩, 8), (⟨"IslandGrammar$History", "slotAt", "(I)LIslandGrammar$State;"⟩, 3), (⟨"IslandGrammar", "isInText", "(I)Z"⟩, 8), (⟨"IslandGrammar", "refresh", "()V"⟩, 8), (⟨"IslandGrammar$Matcher", "markRuns", "(I)V"⟩, 5), (⟨"IslandGrammar$Matcher", "matchIslands", "(I)V"⟩, 5), (⟨"IslandGrammar$Matcher", "matchRests", "(II)V"⟩, 5), (⟨"IslandGrammar$Matcher", "waterRestEnd", "(III)I"⟩, 5), (⟨"IslandGrammar$Nodes", "clear", "()V"⟩, 16), (⟨"IslandGrammar$Nodes", "takeTopLevel", "(I)I"⟩, 16), (⟨"IslandGrammar$Nodes", "announce", "(III)V"⟩, 16), (⟨"IslandGrammar$Nodes", "addNode", "(I)V"⟩, 16), (⟨"IslandGrammar$Nodes", "walkPattern", "(I)V"⟩, 16), (⟨"IslandGrammar$Nodes", "walkWater", "(III)I"⟩, 16), (⟨"IslandGrammarModel", "fail", "(I)I"⟩, 17)]
theorem lw_r1 : ∀ q ∈ lw_privs_1, lw_okq q := List.forall_mem_cons.mpr ⟨lw_p0, List.forall_mem_cons.mpr ⟨lw_p1, List.forall_mem_cons.mpr ⟨lw_p2, List.forall_mem_cons.mpr ⟨lw_p3, List.forall_mem_cons.mpr ⟨lw_p4, List.forall_mem_cons.mpr ⟨lw_p5, List.forall_mem_cons.mpr ⟨lw_p6, List.forall_mem_cons.mpr ⟨lw_p7, List.forall_mem_cons.mpr ⟨lw_p8, List.forall_mem_cons.mpr ⟨lw_p9, List.forall_mem_cons.mpr ⟨lw_p10, List.forall_mem_cons.mpr ⟨lw_p11, List.forall_mem_cons.mpr ⟨lw_p12, List.forall_mem_cons.mpr ⟨lw_p13, List.forall_mem_cons.mpr ⟨lw_p14, List.forall_mem_cons.mpr ⟨lw_p15, fun _ h => absurd h List.not_mem_nil⟩⟩⟩⟩⟩⟩⟩⟩⟩⟩⟩⟩⟩⟩⟩⟩
theorem lw_p16 : lw_okq (⟨"IslandGrammarModel", "save", "()V"⟩, 17) := ⟨⟨by decide +kernel, by decide +kernel⟩, List.mem_of_getElem? (i := 599) (by decide +kernel), List.mem_of_getElem? (i := 671) (by decide +kernel), List.mem_of_getElem? (i := 672) (by decide +kernel)⟩
theorem lw_p17 : lw_okq (⟨"IslandGrammarModel", "isPosition", "(I)Z"⟩, 17) := ⟨⟨by decide +kernel, by decide +kernel⟩, List.mem_of_getElem? (i := 599) (by decide +kernel), List.mem_of_getElem? (i := 679) (by decide +kernel), List.mem_of_getElem? (i := 680) (by decide +kernel)⟩
theorem lw_p18 : lw_okq (⟨"IslandGrammarModel", "elementOf", "(II)I"⟩, 17) := ⟨⟨by decide +kernel, by decide +kernel⟩, List.mem_of_getElem? (i := 599) (by decide +kernel), List.mem_of_getElem? (i := 725) (by decide +kernel), List.mem_of_getElem? (i := 726) (by decide +kernel)⟩
theorem lw_p19 : lw_okq (⟨"IslandGrammarModel", "findEnds", "()V"⟩, 17) := ⟨⟨by decide +kernel, by decide +kernel⟩, List.mem_of_getElem? (i := 599) (by decide +kernel), List.mem_of_getElem? (i := 733) (by decide +kernel), List.mem_of_getElem? (i := 734) (by decide +kernel)⟩
theorem lw_p20 : lw_okq (⟨"IslandGrammarModel", "suffixEnd", "(III)I"⟩, 17) := ⟨⟨by decide +kernel, by decide +kernel⟩, List.mem_of_getElem? (i := 599) (by decide +kernel), List.mem_of_getElem? (i := 740) (by decide +kernel), List.mem_of_getElem? (i := 741) (by decide +kernel)⟩
theorem lw_p21 : lw_okq (⟨"IslandGrammarModel", "waterEnd", "(III)I"⟩, 17) := ⟨⟨by decide +kernel, by decide +kernel⟩, List.mem_of_getElem? (i := 599) (by decide +kernel), List.mem_of_getElem? (i := 744) (by decide +kernel), List.mem_of_getElem? (i := 745) (by decide +kernel)⟩
theorem lw_p22 : lw_okq (⟨"IslandGrammarModel", "islandAt", "(I)I"⟩, 17) := ⟨⟨by decide +kernel, by decide +kernel⟩, List.mem_of_getElem? (i := 599) (by decide +kernel), List.mem_of_getElem? (i := 748) (by decide +kernel), List.mem_of_getElem? (i := 749) (by decide +kernel)⟩
theorem lw_p23 : lw_okq (⟨"IslandGrammarModel", "elementEnd", "(II)I"⟩, 17) := ⟨⟨by decide +kernel, by decide +kernel⟩, List.mem_of_getElem? (i := 599) (by decide +kernel), List.mem_of_getElem? (i := 752) (by decide +kernel), List.mem_of_getElem? (i := 753) (by decide +kernel)⟩
theorem lw_p24 : lw_okq (⟨"IslandGrammarModel", "runEnd", "(III)I"⟩, 17) := ⟨⟨by decide +kernel, by decide +kernel⟩, List.mem_of_getElem? (i := 599) (by decide +kernel), List.mem_of_getElem? (i := 756) (by decide +kernel), List.mem_of_getElem? (i := 757) (by decide +kernel)⟩
theorem lw_p25 : lw_okq (⟨"IslandGrammarModel", "isOf", "(III)Z"⟩, 17) := ⟨⟨by decide +kernel, by decide +kernel⟩, List.mem_of_getElem? (i := 599) (by decide +kernel), List.mem_of_getElem? (i := 760) (by decide +kernel), List.mem_of_getElem? (i := 761) (by decide +kernel)⟩
theorem lw_p26 : lw_okq (⟨"IslandGrammarModel", "parse", "()V"⟩, 17) := ⟨⟨by decide +kernel, by decide +kernel⟩, List.mem_of_getElem? (i := 599) (by decide +kernel), List.mem_of_getElem? (i := 768) (by decide +kernel), List.mem_of_getElem? (i := 769) (by decide +kernel)⟩
theorem lw_p27 : lw_okq (⟨"IslandGrammarModel", "addNode", "(III)V"⟩, 17) := ⟨⟨by decide +kernel, by decide +kernel⟩, List.mem_of_getElem? (i := 599) (by decide +kernel), List.mem_of_getElem? (i := 772) (by decide +kernel), List.mem_of_getElem? (i := 773) (by decide +kernel)⟩
theorem lw_p28 : lw_okq (⟨"IslandGrammarModel", "follow", "(I)V"⟩, 17) := ⟨⟨by decide +kernel, by decide +kernel⟩, List.mem_of_getElem? (i := 599) (by decide +kernel), List.mem_of_getElem? (i := 776) (by decide +kernel), List.mem_of_getElem? (i := 777) (by decide +kernel)⟩
theorem lw_p29 : lw_okq (⟨"IslandGrammarModel", "followWater", "(III)I"⟩, 17) := ⟨⟨by decide +kernel, by decide +kernel⟩, List.mem_of_getElem? (i := 599) (by decide +kernel), List.mem_of_getElem? (i := 780) (by decide +kernel), List.mem_of_getElem? (i := 781) (by decide +kernel)⟩
theorem lw_p30 : lw_okq (⟨"IslandGrammarModel", "numberAt", "(I)I"⟩, 17) := ⟨⟨by decide +kernel, by decide +kernel⟩, List.mem_of_getElem? (i := 599) (by decide +kernel), List.mem_of_getElem? (i := 784) (by decide +kernel), List.mem_of_getElem? (i := 785) (by decide +kernel)⟩
theorem lw_p31 : lw_okq (⟨"IslandGrammarModel", "askNode", "(II)I"⟩, 17) := ⟨⟨by decide +kernel, by decide +kernel⟩, List.mem_of_getElem? (i := 599) (by decide +kernel), List.mem_of_getElem? (i := 797) (by decide +kernel), List.mem_of_getElem? (i := 798) (by decide +kernel)⟩
def lw_privs_2 : List (MethodName × Nat) := [(⟨"IslandGrammarModel", "save", "()V"⟩, 17), (⟨"IslandGrammarModel", "isPosition", "(I)Z"⟩, 17), (⟨"IslandGrammarModel", "elementOf", "(II)I"⟩, 17), (⟨"IslandGrammarModel", "findEnds", "()V"⟩, 17), (⟨"IslandGrammarModel", "suffixEnd", "(III)I"⟩, 17), (⟨"IslandGrammarModel", "waterEnd", "(III)I"⟩, 17), (⟨"IslandGrammarModel", "islandAt", "(I)I"⟩, 17), (⟨"IslandGrammarModel", "elementEnd", "(II)I"⟩, 17), (⟨"IslandGrammarModel", "runEnd", "(III)I"⟩, 17), (⟨"IslandGrammarModel", "isOf", "(III)Z"⟩, 17), (⟨"IslandGrammarModel", "parse", "()V"⟩, 17), (⟨"IslandGrammarModel", "addNode", "(III)V"⟩, 17), (⟨"IslandGrammarModel", "follow", "(I)V"⟩, 17), (⟨"IslandGrammarModel", "followWater", "(III)I"⟩, 17), (⟨"IslandGrammarModel", "numberAt", "(I)I"⟩, 17), (⟨"IslandGrammarModel", "askNode", "(II)I"⟩, 17)]
theorem lw_r2 : ∀ q ∈ lw_privs_2, lw_okq q := List.forall_mem_cons.mpr ⟨lw_p16, List.forall_mem_cons.mpr ⟨lw_p17, List.forall_mem_cons.mpr ⟨lw_p18, List.forall_mem_cons.mpr ⟨lw_p19, List.forall_mem_cons.mpr ⟨lw_p20, List.forall_mem_cons.mpr ⟨lw_p21, List.forall_mem_cons.mpr ⟨lw_p22, List.forall_mem_cons.mpr ⟨lw_p23, List.forall_mem_cons.mpr ⟨lw_p24, List.forall_mem_cons.mpr ⟨lw_p25, List.forall_mem_cons.mpr ⟨lw_p26, List.forall_mem_cons.mpr ⟨lw_p27, List.forall_mem_cons.mpr ⟨lw_p28, List.forall_mem_cons.mpr ⟨lw_p29, List.forall_mem_cons.mpr ⟨lw_p30, List.forall_mem_cons.mpr ⟨lw_p31, fun _ h => absurd h List.not_mem_nil⟩⟩⟩⟩⟩⟩⟩⟩⟩⟩⟩⟩⟩⟩⟩⟩
theorem lw_p32 : lw_okq (⟨"IslandGrammarModel", "foundOf", "(I)I"⟩, 17) := ⟨⟨by decide +kernel, by decide +kernel⟩, List.mem_of_getElem? (i := 599) (by decide +kernel), List.mem_of_getElem? (i := 801) (by decide +kernel), List.mem_of_getElem? (i := 802) (by decide +kernel)⟩
theorem lw_p33 : lw_okq (⟨"IslandGrammarModel", "numberOf", "(I)I"⟩, 17) := ⟨⟨by decide +kernel, by decide +kernel⟩, List.mem_of_getElem? (i := 599) (by decide +kernel), List.mem_of_getElem? (i := 805) (by decide +kernel), List.mem_of_getElem? (i := 806) (by decide +kernel)⟩
theorem lw_p34 : lw_okq (⟨"IslandGrammarModel", "endOf", "(I)I"⟩, 17) := ⟨⟨by decide +kernel, by decide +kernel⟩, List.mem_of_getElem? (i := 599) (by decide +kernel), List.mem_of_getElem? (i := 809) (by decide +kernel), List.mem_of_getElem? (i := 810) (by decide +kernel)⟩
theorem lw_p35 : lw_okq (⟨"IslandGrammarModel", "parentOf", "(I)I"⟩, 17) := ⟨⟨by decide +kernel, by decide +kernel⟩, List.mem_of_getElem? (i := 599) (by decide +kernel), List.mem_of_getElem? (i := 813) (by decide +kernel), List.mem_of_getElem? (i := 814) (by decide +kernel)⟩
theorem lw_p36 : lw_okq (⟨"IslandGrammarModel", "depthOf", "(I)I"⟩, 17) := ⟨⟨by decide +kernel, by decide +kernel⟩, List.mem_of_getElem? (i := 599) (by decide +kernel), List.mem_of_getElem? (i := 817) (by decide +kernel), List.mem_of_getElem? (i := 818) (by decide +kernel)⟩
theorem lw_p37 : lw_okq (⟨"IslandGrammarModel", "mix", "(I)V"⟩, 17) := ⟨⟨by decide +kernel, by decide +kernel⟩, List.mem_of_getElem? (i := 599) (by decide +kernel), List.mem_of_getElem? (i := 874) (by decide +kernel), List.mem_of_getElem? (i := 875) (by decide +kernel)⟩
theorem lw_p38 : lw_okq (⟨"IslandGrammarModel", "mixRules", "()V"⟩, 17) := ⟨⟨by decide +kernel, by decide +kernel⟩, List.mem_of_getElem? (i := 599) (by decide +kernel), List.mem_of_getElem? (i := 879) (by decide +kernel), List.mem_of_getElem? (i := 880) (by decide +kernel)⟩
def lw_privs_3 : List (MethodName × Nat) := [(⟨"IslandGrammarModel", "foundOf", "(I)I"⟩, 17), (⟨"IslandGrammarModel", "numberOf", "(I)I"⟩, 17), (⟨"IslandGrammarModel", "endOf", "(I)I"⟩, 17), (⟨"IslandGrammarModel", "parentOf", "(I)I"⟩, 17), (⟨"IslandGrammarModel", "depthOf", "(I)I"⟩, 17), (⟨"IslandGrammarModel", "mix", "(I)V"⟩, 17), (⟨"IslandGrammarModel", "mixRules", "()V"⟩, 17)]
theorem lw_r3 : ∀ q ∈ lw_privs_3, lw_okq q := List.forall_mem_cons.mpr ⟨lw_p32, List.forall_mem_cons.mpr ⟨lw_p33, List.forall_mem_cons.mpr ⟨lw_p34, List.forall_mem_cons.mpr ⟨lw_p35, List.forall_mem_cons.mpr ⟨lw_p36, List.forall_mem_cons.mpr ⟨lw_p37, List.forall_mem_cons.mpr ⟨lw_p38, fun _ h => absurd h List.not_mem_nil⟩⟩⟩⟩⟩⟩⟩
def lw_privs : List (MethodName × Nat) := lw_privs_1 ++ (lw_privs_2 ++ (lw_privs_3))
def lw_tbl : List Cond := k2_sels lw_privs ++ tables_1
theorem lw_privs_ok : ∀ q ∈ lw_privs, lw_okq q := by
  show ∀ q ∈ lw_privs_1 ++ (lw_privs_2 ++ (lw_privs_3)), lw_okq q
  exact List.forall_mem_append.mpr ⟨lw_r1, List.forall_mem_append.mpr ⟨lw_r2, lw_r3⟩⟩
end
section
/-! ===== BEGIN words of one list among another's, by their places ===== -/
theorem goodIn_r {big : List Cond} (ws : List Cond) (ps : List Nat) (hp : ws = ps.filterMap (fun i => big[i]?)) (h : ws.all goodWord = true) : GoodIn big ws := by
  intro w hw
  have h1 := List.all_eq_true.mp h w hw
  rw [hp] at hw
  obtain ⟨i, -, hi⟩ := List.mem_filterMap.mp hw
  have hm : w ∈ big := by first | exact List.mem_of_getElem? hi | exact List.getElem?_mem hi
  exact ⟨hm, good_of_word h1⟩
theorem goodIn_app {big a b : List Cond} (ha : GoodIn big a) (hb : GoodIn big b) : GoodIn big (a ++ b) := fun w h => (List.mem_append.mp h).elim (ha w) (hb w)
theorem goodIn_ca {big a b : List Cond} {c : Cond} (ha : GoodIn big (c :: a)) (hb : GoodIn big b) : GoodIn big (c :: (a ++ b)) := fun w h => (List.mem_cons.mp h).elim (fun e => ha w (List.mem_cons.mpr (Or.inl e))) (fun h => (List.mem_append.mp h).elim (fun h => ha w (List.mem_cons.mpr (Or.inr h))) (hb w))
theorem goodIn_sub {big ws : List Cond} (hm : ∀ w ∈ ws, w ∈ big) (h : ws.all goodWord = true) : GoodIn big ws := fun w hw => ⟨hm w hw, good_of_word (List.all_eq_true.mp h w hw)⟩
/-! ===== END ===== -/

/-! ===== BEGIN printed: names, fields, word lists, decode rows ===== -/
def RX0 : String := "IslandGrammar$EndTable"
def TX0 : u_T := fun k => match k with
  | _ => ("IslandGrammar$EndTable", "cells", "[I", true)
def tyX0 : Nat → FieldType := fun k => match k with
  | _ => .array .int
abbrev wsX00 : List Cond := u_ws RX0 TX0 1
theorem nmX0 : ∀ a, a < 1 → ∀ b, b < 1 → a ≠ b → (TX0 a).2.1 ≠ (TX0 b).2.1 := by decide +kernel
theorem tyX0_ok : ∀ k, k < 1 → parseFieldDescriptor (TX0 k).2.2.1 = some (tyX0 k) := by decide +kernel
abbrev cX0_init : ByteArray := prog_2_method_1_code
def yX0_init : MethodName := ⟨RX0, "<init>", "()V"⟩
abbrev cX0_get : ByteArray := prog_2_method_2_code
def yX0_get : MethodName := ⟨RX0, "get", "(III)I"⟩
abbrev cX0_set : ByteArray := prog_2_method_3_code
def yX0_set : MethodName := ⟨RX0, "set", "(IIII)V"⟩
def RX1 : String := "IslandGrammar$History"
def TX1 : u_T := fun k => match k with
  | 0 => ("IslandGrammar$History", "ring", "[LIslandGrammar$State;", true)
  | 1 => ("IslandGrammar$History", "next", "I", false)
  | _ => ("IslandGrammar$History", "count", "I", false)
def tyX1 : Nat → FieldType := fun k => match k with
  | 0 => .array (.object "IslandGrammar$State")
  | 1 => .int
  | _ => .int
abbrev wsX10 : List Cond := u_ws RX1 TX1 3
theorem nmX1 : ∀ a, a < 3 → ∀ b, b < 3 → a ≠ b → (TX1 a).2.1 ≠ (TX1 b).2.1 := by decide +kernel
theorem tyX1_ok : ∀ k, k < 3 → parseFieldDescriptor (TX1 k).2.2.1 = some (tyX1 k) := by decide +kernel
abbrev cX1_init : ByteArray := prog_3_method_1_code
def yX1_init : MethodName := ⟨RX1, "<init>", "()V"⟩
abbrev cX1_savedCount : ByteArray := prog_3_method_2_code
def yX1_savedCount : MethodName := ⟨RX1, "savedCount", "()I"⟩
abbrev cX1_save : ByteArray := prog_3_method_3_code
def yX1_save : MethodName := ⟨RX1, "save", "(LIslandGrammar$State;)V"⟩
abbrev cX1_restore : ByteArray := prog_3_method_4_code
def yX1_restore : MethodName := ⟨RX1, "restore", "(LIslandGrammar$State;)V"⟩
abbrev cX1_slotAt : ByteArray := prog_3_method_5_code
def yX1_slotAt : MethodName := ⟨RX1, "slotAt", "(I)LIslandGrammar$State;"⟩
def RX2 : String := "IslandGrammar$Matcher"
def TX2 : u_T := fun k => match k with
  | 0 => ("IslandGrammar$Matcher", "state", "LIslandGrammar$State;", true)
  | 1 => ("IslandGrammar$Matcher", "digitEnds", "LIslandGrammar$Row;", true)
  | 2 => ("IslandGrammar$Matcher", "letterEnds", "LIslandGrammar$Row;", true)
  | 3 => ("IslandGrammar$Matcher", "firstRules", "LIslandGrammar$Row;", true)
  | _ => ("IslandGrammar$Matcher", "restEnds", "LIslandGrammar$EndTable;", true)
def tyX2 : Nat → FieldType := fun k => match k with
  | 0 => .object "IslandGrammar$State"
  | 1 => .object "IslandGrammar$Row"
  | 2 => .object "IslandGrammar$Row"
  | 3 => .object "IslandGrammar$Row"
  | _ => .object "IslandGrammar$EndTable"
abbrev wsX20 : List Cond := u_ws RX2 TX2 5
theorem nmX2 : ∀ a, a < 5 → ∀ b, b < 5 → a ≠ b → (TX2 a).2.1 ≠ (TX2 b).2.1 := by decide +kernel
theorem tyX2_ok : ∀ k, k < 5 → parseFieldDescriptor (TX2 k).2.2.1 = some (tyX2 k) := by decide +kernel
abbrev cX2_init : ByteArray := prog_4_method_1_code
def yX2_init : MethodName := ⟨RX2, "<init>", "(LIslandGrammar$State;)V"⟩
abbrev cX2_update : ByteArray := prog_4_method_2_code
def yX2_update : MethodName := ⟨RX2, "update", "()V"⟩
abbrev cX2_islandEnd : ByteArray := prog_4_method_3_code
def yX2_islandEnd : MethodName := ⟨RX2, "islandEnd", "(II)I"⟩
abbrev cX2_firstRule : ByteArray := prog_4_method_4_code
def yX2_firstRule : MethodName := ⟨RX2, "firstRule", "(I)I"⟩
abbrev cX2_restMatches : ByteArray := prog_4_method_5_code
def yX2_restMatches : MethodName := ⟨RX2, "restMatches", "(III)Z"⟩
abbrev cX2_elementEnd : ByteArray := prog_4_method_6_code
def yX2_elementEnd : MethodName := ⟨RX2, "elementEnd", "(II)I"⟩
abbrev cX2_markRuns : ByteArray := prog_4_method_7_code
def yX2_markRuns : MethodName := ⟨RX2, "markRuns", "(I)V"⟩
abbrev cX2_runEnd : ByteArray := prog_4_method_8_code
def yX2_runEnd : MethodName := ⟨RX2, "runEnd", "(LIslandGrammar$Row;I)I"⟩
abbrev cX2_matchIslands : ByteArray := prog_4_method_9_code
def yX2_matchIslands : MethodName := ⟨RX2, "matchIslands", "(I)V"⟩
abbrev cX2_matchRests : ByteArray := prog_4_method_10_code
def yX2_matchRests : MethodName := ⟨RX2, "matchRests", "(II)V"⟩
abbrev cX2_waterRestEnd : ByteArray := prog_4_method_11_code
def yX2_waterRestEnd : MethodName := ⟨RX2, "waterRestEnd", "(III)I"⟩
def RX3 : String := "IslandGrammar$Nodes"
def TX3 : u_T := fun k => match k with
  | 0 => ("IslandGrammar$Nodes", "state", "LIslandGrammar$State;", true)
  | 1 => ("IslandGrammar$Nodes", "matcher", "LIslandGrammar$Matcher;", true)
  | 2 => ("IslandGrammar$Nodes", "rules", "LIslandGrammar$Row;", true)
  | 3 => ("IslandGrammar$Nodes", "starts", "LIslandGrammar$Row;", true)
  | 4 => ("IslandGrammar$Nodes", "ends", "LIslandGrammar$Row;", true)
  | 5 => ("IslandGrammar$Nodes", "parents", "LIslandGrammar$Row;", true)
  | 6 => ("IslandGrammar$Nodes", "depths", "LIslandGrammar$Row;", true)
  | 7 => ("IslandGrammar$Nodes", "waters", "LIslandGrammar$Row;", true)
  | 8 => ("IslandGrammar$Nodes", "numbers", "LIslandGrammar$Row;", true)
  | 9 => ("IslandGrammar$Nodes", "dueRules", "LIslandGrammar$Row;", true)
  | 10 => ("IslandGrammar$Nodes", "dueParents", "LIslandGrammar$Row;", true)
  | 11 => ("IslandGrammar$Nodes", "count", "I", false)
  | 12 => ("IslandGrammar$Nodes", "topIslands", "I", false)
  | 13 => ("IslandGrammar$Nodes", "topWater", "I", false)
  | 14 => ("IslandGrammar$Nodes", "waterRun", "I", false)
  | _ => ("IslandGrammar$Nodes", "longestRun", "I", false)
def tyX3 : Nat → FieldType := fun k => match k with
  | 0 => .object "IslandGrammar$State"
  | 1 => .object "IslandGrammar$Matcher"
  | 2 => .object "IslandGrammar$Row"
  | 3 => .object "IslandGrammar$Row"
  | 4 => .object "IslandGrammar$Row"
  | 5 => .object "IslandGrammar$Row"
  | 6 => .object "IslandGrammar$Row"
  | 7 => .object "IslandGrammar$Row"
  | 8 => .object "IslandGrammar$Row"
  | 9 => .object "IslandGrammar$Row"
  | 10 => .object "IslandGrammar$Row"
  | 11 => .int
  | 12 => .int
  | 13 => .int
  | 14 => .int
  | _ => .int
abbrev wsX30 : List Cond := u_ws RX3 TX3 16
theorem nmX3 : ∀ a, a < 16 → ∀ b, b < 16 → a ≠ b → (TX3 a).2.1 ≠ (TX3 b).2.1 := by decide +kernel
theorem tyX3_ok : ∀ k, k < 16 → parseFieldDescriptor (TX3 k).2.2.1 = some (tyX3 k) := by decide +kernel
abbrev cX3_init : ByteArray := prog_5_method_1_code
def yX3_init : MethodName := ⟨RX3, "<init>", "(LIslandGrammar$State;LIslandGrammar$Matcher;)V"⟩
abbrev cX3_update : ByteArray := prog_5_method_2_code
def yX3_update : MethodName := ⟨RX3, "update", "()V"⟩
abbrev cX3_total : ByteArray := prog_5_method_3_code
def yX3_total : MethodName := ⟨RX3, "total", "()I"⟩
abbrev cX3_has : ByteArray := prog_5_method_4_code
def yX3_has : MethodName := ⟨RX3, "has", "(I)Z"⟩
abbrev cX3_topLevelTotal : ByteArray := prog_5_method_5_code
def yX3_topLevelTotal : MethodName := ⟨RX3, "topLevelTotal", "()I"⟩
abbrev cX3_topWater : ByteArray := prog_5_method_6_code
def yX3_topWater : MethodName := ⟨RX3, "topWater", "()I"⟩
abbrev cX3_longestTopWater : ByteArray := prog_5_method_7_code
def yX3_longestTopWater : MethodName := ⟨RX3, "longestTopWater", "()I"⟩
abbrev cX3_ruleOf : ByteArray := prog_5_method_8_code
def yX3_ruleOf : MethodName := ⟨RX3, "ruleOf", "(I)I"⟩
abbrev cX3_startOf : ByteArray := prog_5_method_9_code
def yX3_startOf : MethodName := ⟨RX3, "startOf", "(I)I"⟩
abbrev cX3_endOf : ByteArray := prog_5_method_10_code
def yX3_endOf : MethodName := ⟨RX3, "endOf", "(I)I"⟩
abbrev cX3_parentOf : ByteArray := prog_5_method_11_code
def yX3_parentOf : MethodName := ⟨RX3, "parentOf", "(I)I"⟩
abbrev cX3_depthOf : ByteArray := prog_5_method_12_code
def yX3_depthOf : MethodName := ⟨RX3, "depthOf", "(I)I"⟩
abbrev cX3_waterOf : ByteArray := prog_5_method_13_code
def yX3_waterOf : MethodName := ⟨RX3, "waterOf", "(I)I"⟩
abbrev cX3_numberOf : ByteArray := prog_5_method_14_code
def yX3_numberOf : MethodName := ⟨RX3, "numberOf", "(I)I"⟩
abbrev cX3_totalOf : ByteArray := prog_5_method_15_code
def yX3_totalOf : MethodName := ⟨RX3, "totalOf", "(I)I"⟩
abbrev cX3_innermostAt : ByteArray := prog_5_method_16_code
def yX3_innermostAt : MethodName := ⟨RX3, "innermostAt", "(I)I"⟩
abbrev cX3_mixInto : ByteArray := prog_5_method_17_code
def yX3_mixInto : MethodName := ⟨RX3, "mixInto", "(J)J"⟩
abbrev cX3_clear : ByteArray := prog_5_method_18_code
def yX3_clear : MethodName := ⟨RX3, "clear", "()V"⟩
abbrev cX3_takeTopLevel : ByteArray := prog_5_method_19_code
def yX3_takeTopLevel : MethodName := ⟨RX3, "takeTopLevel", "(I)I"⟩
abbrev cX3_announce : ByteArray := prog_5_method_20_code
def yX3_announce : MethodName := ⟨RX3, "announce", "(III)V"⟩
abbrev cX3_addNode : ByteArray := prog_5_method_21_code
def yX3_addNode : MethodName := ⟨RX3, "addNode", "(I)V"⟩
abbrev cX3_walkPattern : ByteArray := prog_5_method_22_code
def yX3_walkPattern : MethodName := ⟨RX3, "walkPattern", "(I)V"⟩
abbrev cX3_walkWater : ByteArray := prog_5_method_23_code
def yX3_walkWater : MethodName := ⟨RX3, "walkWater", "(III)I"⟩
def RX4 : String := "IslandGrammar$Row"
def TX4 : u_T := fun k => match k with
  | _ => ("IslandGrammar$Row", "cells", "[I", true)
def tyX4 : Nat → FieldType := fun k => match k with
  | _ => .array .int
abbrev wsX40 : List Cond := u_ws RX4 TX4 1
theorem nmX4 : ∀ a, a < 1 → ∀ b, b < 1 → a ≠ b → (TX4 a).2.1 ≠ (TX4 b).2.1 := by decide +kernel
theorem tyX4_ok : ∀ k, k < 1 → parseFieldDescriptor (TX4 k).2.2.1 = some (tyX4 k) := by decide +kernel
abbrev cX4_init : ByteArray := prog_6_method_1_code
def yX4_init : MethodName := ⟨RX4, "<init>", "(I)V"⟩
abbrev cX4_get : ByteArray := prog_6_method_2_code
def yX4_get : MethodName := ⟨RX4, "get", "(I)I"⟩
abbrev cX4_set : ByteArray := prog_6_method_3_code
def yX4_set : MethodName := ⟨RX4, "set", "(II)V"⟩
abbrev cX4_fill : ByteArray := prog_6_method_4_code
def yX4_fill : MethodName := ⟨RX4, "fill", "(I)V"⟩
abbrev cX4_copyFrom : ByteArray := prog_6_method_5_code
def yX4_copyFrom : MethodName := ⟨RX4, "copyFrom", "(LIslandGrammar$Row;)V"⟩
abbrev cX4_mixInto : ByteArray := prog_6_method_6_code
def yX4_mixInto : MethodName := ⟨RX4, "mixInto", "(JII)J"⟩
def RX5 : String := "IslandGrammar$State"
def TX5 : u_T := fun k => match k with
  | 0 => ("IslandGrammar$State", "text", "LIslandGrammar$Row;", true)
  | 1 => ("IslandGrammar$State", "patternSizes", "LIslandGrammar$Row;", true)
  | 2 => ("IslandGrammar$State", "patterns", "LIslandGrammar$Row;", true)
  | 3 => ("IslandGrammar$State", "stops", "LIslandGrammar$Row;", true)
  | _ => ("IslandGrammar$State", "textSize", "I", false)
def tyX5 : Nat → FieldType := fun k => match k with
  | 0 => .object "IslandGrammar$Row"
  | 1 => .object "IslandGrammar$Row"
  | 2 => .object "IslandGrammar$Row"
  | 3 => .object "IslandGrammar$Row"
  | _ => .int
abbrev wsX50 : List Cond := u_ws RX5 TX5 5
theorem nmX5 : ∀ a, a < 5 → ∀ b, b < 5 → a ≠ b → (TX5 a).2.1 ≠ (TX5 b).2.1 := by decide +kernel
theorem tyX5_ok : ∀ k, k < 5 → parseFieldDescriptor (TX5 k).2.2.1 = some (tyX5 k) := by decide +kernel
abbrev cX5_init : ByteArray := prog_7_method_1_code
def yX5_init : MethodName := ⟨RX5, "<init>", "()V"⟩
abbrev cX5_textSize : ByteArray := prog_7_method_2_code
def yX5_textSize : MethodName := ⟨RX5, "textSize", "()I"⟩
abbrev cX5_textAt : ByteArray := prog_7_method_3_code
def yX5_textAt : MethodName := ⟨RX5, "textAt", "(I)I"⟩
abbrev cX5_insertByte : ByteArray := prog_7_method_4_code
def yX5_insertByte : MethodName := ⟨RX5, "insertByte", "(II)V"⟩
abbrev cX5_setByte : ByteArray := prog_7_method_5_code
def yX5_setByte : MethodName := ⟨RX5, "setByte", "(II)V"⟩
abbrev cX5_removeBytes : ByteArray := prog_7_method_6_code
def yX5_removeBytes : MethodName := ⟨RX5, "removeBytes", "(II)V"⟩
abbrev cX5_numberBetween : ByteArray := prog_7_method_7_code
def yX5_numberBetween : MethodName := ⟨RX5, "numberBetween", "(II)I"⟩
abbrev cX5_patternSize : ByteArray := prog_7_method_8_code
def yX5_patternSize : MethodName := ⟨RX5, "patternSize", "(I)I"⟩
abbrev cX5_patternAt : ByteArray := prog_7_method_9_code
def yX5_patternAt : MethodName := ⟨RX5, "patternAt", "(II)I"⟩
abbrev cX5_setPattern : ByteArray := prog_7_method_10_code
def yX5_setPattern : MethodName := ⟨RX5, "setPattern", "(ILIslandGrammar$Row;I)V"⟩
abbrev cX5_stopOf : ByteArray := prog_7_method_11_code
def yX5_stopOf : MethodName := ⟨RX5, "stopOf", "(I)I"⟩
abbrev cX5_putStop : ByteArray := prog_7_method_12_code
def yX5_putStop : MethodName := ⟨RX5, "putStop", "(II)V"⟩
abbrev cX5_copyFrom : ByteArray := prog_7_method_13_code
def yX5_copyFrom : MethodName := ⟨RX5, "copyFrom", "(LIslandGrammar$State;)V"⟩
abbrev cX5_mixInto : ByteArray := prog_7_method_14_code
def yX5_mixInto : MethodName := ⟨RX5, "mixInto", "(J)J"⟩
def RX6 : String := "IslandGrammar"
def TX6 : u_T := fun k => match k with
  | 0 => ("IslandGrammar", "state", "LIslandGrammar$State;", true)
  | 1 => ("IslandGrammar", "history", "LIslandGrammar$History;", true)
  | 2 => ("IslandGrammar", "buffer", "LIslandGrammar$Row;", true)
  | 3 => ("IslandGrammar", "errors", "LIslandGrammar$Row;", true)
  | 4 => ("IslandGrammar", "matcher", "LIslandGrammar$Matcher;", true)
  | 5 => ("IslandGrammar", "nodes", "LIslandGrammar$Nodes;", true)
  | 6 => ("IslandGrammar", "bufferSize", "I", false)
  | _ => ("IslandGrammar", "stale", "Z", false)
def tyX6 : Nat → FieldType := fun k => match k with
  | 0 => .object "IslandGrammar$State"
  | 1 => .object "IslandGrammar$History"
  | 2 => .object "IslandGrammar$Row"
  | 3 => .object "IslandGrammar$Row"
  | 4 => .object "IslandGrammar$Matcher"
  | 5 => .object "IslandGrammar$Nodes"
  | 6 => .int
  | _ => .boolean
abbrev wsX60 : List Cond := u_ws RX6 TX6 8
theorem nmX6 : ∀ a, a < 8 → ∀ b, b < 8 → a ≠ b → (TX6 a).2.1 ≠ (TX6 b).2.1 := by decide +kernel
theorem tyX6_ok : ∀ k, k < 8 → parseFieldDescriptor (TX6 k).2.2.1 = some (tyX6 k) := by decide +kernel
abbrev cX6_init : ByteArray := prog_1_method_1_code
def yX6_init : MethodName := ⟨RX6, "<init>", "()V"⟩
abbrev cX6_insert : ByteArray := prog_1_method_2_code
def yX6_insert : MethodName := ⟨RX6, "insert", "(II)I"⟩
abbrev cX6_replace : ByteArray := prog_1_method_3_code
def yX6_replace : MethodName := ⟨RX6, "replace", "(II)I"⟩
abbrev cX6_delete : ByteArray := prog_1_method_4_code
def yX6_delete : MethodName := ⟨RX6, "delete", "(II)I"⟩
abbrev cX6_length : ByteArray := prog_1_method_5_code
def yX6_length : MethodName := ⟨RX6, "length", "()I"⟩
abbrev cX6_byteAt : ByteArray := prog_1_method_6_code
def yX6_byteAt : MethodName := ⟨RX6, "byteAt", "(I)I"⟩
abbrev cX6_append : ByteArray := prog_1_method_7_code
def yX6_append : MethodName := ⟨RX6, "append", "(I)I"⟩
abbrev cX6_clearPattern : ByteArray := prog_1_method_8_code
def yX6_clearPattern : MethodName := ⟨RX6, "clearPattern", "()I"⟩
abbrev cX6_define : ByteArray := prog_1_method_9_code
def yX6_define : MethodName := ⟨RX6, "define", "(I)I"⟩
abbrev cX6_undefine : ByteArray := prog_1_method_10_code
def yX6_undefine : MethodName := ⟨RX6, "undefine", "(I)I"⟩
abbrev cX6_setStop : ByteArray := prog_1_method_11_code
def yX6_setStop : MethodName := ⟨RX6, "setStop", "(II)I"⟩
abbrev cX6_element : ByteArray := prog_1_method_12_code
def yX6_element : MethodName := ⟨RX6, "element", "(II)I"⟩
abbrev cX6_matchEnd : ByteArray := prog_1_method_13_code
def yX6_matchEnd : MethodName := ⟨RX6, "matchEnd", "(II)I"⟩
abbrev cX6_nodeCount : ByteArray := prog_1_method_14_code
def yX6_nodeCount : MethodName := ⟨RX6, "nodeCount", "()I"⟩
abbrev cX6_islandCount : ByteArray := prog_1_method_15_code
def yX6_islandCount : MethodName := ⟨RX6, "islandCount", "()I"⟩
abbrev cX6_nodeRule : ByteArray := prog_1_method_16_code
def yX6_nodeRule : MethodName := ⟨RX6, "nodeRule", "(I)I"⟩
abbrev cX6_nodeStart : ByteArray := prog_1_method_17_code
def yX6_nodeStart : MethodName := ⟨RX6, "nodeStart", "(I)I"⟩
abbrev cX6_nodeEnd : ByteArray := prog_1_method_18_code
def yX6_nodeEnd : MethodName := ⟨RX6, "nodeEnd", "(I)I"⟩
abbrev cX6_nodeParent : ByteArray := prog_1_method_19_code
def yX6_nodeParent : MethodName := ⟨RX6, "nodeParent", "(I)I"⟩
abbrev cX6_nodeDepth : ByteArray := prog_1_method_20_code
def yX6_nodeDepth : MethodName := ⟨RX6, "nodeDepth", "(I)I"⟩
abbrev cX6_nodeWater : ByteArray := prog_1_method_21_code
def yX6_nodeWater : MethodName := ⟨RX6, "nodeWater", "(I)I"⟩
abbrev cX6_nodeNumber : ByteArray := prog_1_method_22_code
def yX6_nodeNumber : MethodName := ⟨RX6, "nodeNumber", "(I)I"⟩
abbrev cX6_nodeAt : ByteArray := prog_1_method_23_code
def yX6_nodeAt : MethodName := ⟨RX6, "nodeAt", "(I)I"⟩
abbrev cX6_waterLength : ByteArray := prog_1_method_24_code
def yX6_waterLength : MethodName := ⟨RX6, "waterLength", "()I"⟩
abbrev cX6_longestWater : ByteArray := prog_1_method_25_code
def yX6_longestWater : MethodName := ⟨RX6, "longestWater", "()I"⟩
abbrev cX6_countOf : ByteArray := prog_1_method_26_code
def yX6_countOf : MethodName := ⟨RX6, "countOf", "(I)I"⟩
abbrev cX6_undo : ByteArray := prog_1_method_27_code
def yX6_undo : MethodName := ⟨RX6, "undo", "()I"⟩
abbrev cX6_errorCount : ByteArray := prog_1_method_28_code
def yX6_errorCount : MethodName := ⟨RX6, "errorCount", "(I)I"⟩
abbrev cX6_digest : ByteArray := prog_1_method_29_code
def yX6_digest : MethodName := ⟨RX6, "digest", "()J"⟩
abbrev cX6_isByte : ByteArray := prog_1_method_30_code
def yX6_isByte : MethodName := ⟨RX6, "isByte", "(I)Z"⟩
abbrev cX6_isRule : ByteArray := prog_1_method_31_code
def yX6_isRule : MethodName := ⟨RX6, "isRule", "(I)Z"⟩
abbrev cX6_isReference : ByteArray := prog_1_method_32_code
def yX6_isReference : MethodName := ⟨RX6, "isReference", "(I)Z"⟩
abbrev cX6_canStartPattern : ByteArray := prog_1_method_33_code
def yX6_canStartPattern : MethodName := ⟨RX6, "canStartPattern", "(I)Z"⟩
abbrev cX6_isDigit : ByteArray := prog_1_method_34_code
def yX6_isDigit : MethodName := ⟨RX6, "isDigit", "(I)Z"⟩
abbrev cX6_isLetter : ByteArray := prog_1_method_35_code
def yX6_isLetter : MethodName := ⟨RX6, "isLetter", "(I)Z"⟩
abbrev cX6_mix : ByteArray := prog_1_method_36_code
def yX6_mix : MethodName := ⟨RX6, "mix", "(JJ)J"⟩
abbrev cX6_isInText : ByteArray := prog_1_method_37_code
def yX6_isInText : MethodName := ⟨RX6, "isInText", "(I)Z"⟩
abbrev cX6_fail : ByteArray := prog_1_method_38_code
def yX6_fail : MethodName := ⟨RX6, "fail", "(I)I"⟩
abbrev cX6_prepareChange : ByteArray := prog_1_method_39_code
def yX6_prepareChange : MethodName := ⟨RX6, "prepareChange", "()V"⟩
abbrev cX6_refresh : ByteArray := prog_1_method_40_code
def yX6_refresh : MethodName := ⟨RX6, "refresh", "()V"⟩
def RX7 : String := "IslandGrammarModel"
def TX7 : u_T := fun k => match k with
  | 0 => ("IslandGrammarModel", "now", "[I", true)
  | 1 => ("IslandGrammarModel", "history", "[I", true)
  | 2 => ("IslandGrammarModel", "depth", "I", false)
  | 3 => ("IslandGrammarModel", "pattern", "[I", true)
  | 4 => ("IslandGrammarModel", "patternLength", "I", false)
  | 5 => ("IslandGrammarModel", "errors", "[I", true)
  | 6 => ("IslandGrammarModel", "ends", "[I", true)
  | 7 => ("IslandGrammarModel", "foundRule", "[I", true)
  | 8 => ("IslandGrammarModel", "foundStart", "[I", true)
  | 9 => ("IslandGrammarModel", "foundParent", "[I", true)
  | 10 => ("IslandGrammarModel", "foundWater", "[I", true)
  | 11 => ("IslandGrammarModel", "foundNumber", "[I", true)
  | 12 => ("IslandGrammarModel", "nodes", "I", false)
  | 13 => ("IslandGrammarModel", "islands", "I", false)
  | 14 => ("IslandGrammarModel", "water", "I", false)
  | 15 => ("IslandGrammarModel", "longest", "I", false)
  | _ => ("IslandGrammarModel", "hash", "J", false)
def tyX7 : Nat → FieldType := fun k => match k with
  | 0 => .array .int
  | 1 => .array .int
  | 2 => .int
  | 3 => .array .int
  | 4 => .int
  | 5 => .array .int
  | 6 => .array .int
  | 7 => .array .int
  | 8 => .array .int
  | 9 => .array .int
  | 10 => .array .int
  | 11 => .array .int
  | 12 => .int
  | 13 => .int
  | 14 => .int
  | 15 => .int
  | _ => .long
abbrev wsX70 : List Cond := u_ws RX7 TX7 17
theorem nmX7 : ∀ a, a < 17 → ∀ b, b < 17 → a ≠ b → (TX7 a).2.1 ≠ (TX7 b).2.1 := by decide +kernel
theorem tyX7_ok : ∀ k, k < 17 → parseFieldDescriptor (TX7 k).2.2.1 = some (tyX7 k) := by decide +kernel
abbrev cX7_init : ByteArray := prog_9_method_1_code
def yX7_init : MethodName := ⟨RX7, "<init>", "()V"⟩
abbrev cX7_in : ByteArray := prog_9_method_2_code
def yX7_in : MethodName := ⟨RX7, "in", "(III)Z"⟩
abbrev cX7_fail : ByteArray := prog_9_method_3_code
def yX7_fail : MethodName := ⟨RX7, "fail", "(I)I"⟩
abbrev cX7_save : ByteArray := prog_9_method_4_code
def yX7_save : MethodName := ⟨RX7, "save", "()V"⟩
abbrev cX7_isByte : ByteArray := prog_9_method_5_code
def yX7_isByte : MethodName := ⟨RX7, "isByte", "(I)Z"⟩
abbrev cX7_isPosition : ByteArray := prog_9_method_6_code
def yX7_isPosition : MethodName := ⟨RX7, "isPosition", "(I)Z"⟩
abbrev cX7_insert : ByteArray := prog_9_method_7_code
def yX7_insert : MethodName := ⟨RX7, "insert", "(II)I"⟩
abbrev cX7_replace : ByteArray := prog_9_method_8_code
def yX7_replace : MethodName := ⟨RX7, "replace", "(II)I"⟩
abbrev cX7_delete : ByteArray := prog_9_method_9_code
def yX7_delete : MethodName := ⟨RX7, "delete", "(II)I"⟩
abbrev cX7_length : ByteArray := prog_9_method_10_code
def yX7_length : MethodName := ⟨RX7, "length", "()I"⟩
abbrev cX7_byteAt : ByteArray := prog_9_method_11_code
def yX7_byteAt : MethodName := ⟨RX7, "byteAt", "(I)I"⟩
abbrev cX7_isRule : ByteArray := prog_9_method_12_code
def yX7_isRule : MethodName := ⟨RX7, "isRule", "(I)Z"⟩
abbrev cX7_append : ByteArray := prog_9_method_13_code
def yX7_append : MethodName := ⟨RX7, "append", "(I)I"⟩
abbrev cX7_clearPattern : ByteArray := prog_9_method_14_code
def yX7_clearPattern : MethodName := ⟨RX7, "clearPattern", "()I"⟩
abbrev cX7_isReference : ByteArray := prog_9_method_15_code
def yX7_isReference : MethodName := ⟨RX7, "isReference", "(I)Z"⟩
abbrev cX7_define : ByteArray := prog_9_method_16_code
def yX7_define : MethodName := ⟨RX7, "define", "(I)I"⟩
abbrev cX7_undefine : ByteArray := prog_9_method_17_code
def yX7_undefine : MethodName := ⟨RX7, "undefine", "(I)I"⟩
abbrev cX7_setStop : ByteArray := prog_9_method_18_code
def yX7_setStop : MethodName := ⟨RX7, "setStop", "(II)I"⟩
abbrev cX7_elementOf : ByteArray := prog_9_method_19_code
def yX7_elementOf : MethodName := ⟨RX7, "elementOf", "(II)I"⟩
abbrev cX7_element : ByteArray := prog_9_method_20_code
def yX7_element : MethodName := ⟨RX7, "element", "(II)I"⟩
abbrev cX7_cell : ByteArray := prog_9_method_21_code
def yX7_cell : MethodName := ⟨RX7, "cell", "(III)I"⟩
abbrev cX7_isOf : ByteArray := prog_9_method_22_code
def yX7_isOf : MethodName := ⟨RX7, "isOf", "(III)Z"⟩
abbrev cX7_runEnd : ByteArray := prog_9_method_23_code
def yX7_runEnd : MethodName := ⟨RX7, "runEnd", "(III)I"⟩
abbrev cX7_elementEnd : ByteArray := prog_9_method_24_code
def yX7_elementEnd : MethodName := ⟨RX7, "elementEnd", "(II)I"⟩
abbrev cX7_islandAt : ByteArray := prog_9_method_25_code
def yX7_islandAt : MethodName := ⟨RX7, "islandAt", "(I)I"⟩
abbrev cX7_waterEnd : ByteArray := prog_9_method_26_code
def yX7_waterEnd : MethodName := ⟨RX7, "waterEnd", "(III)I"⟩
abbrev cX7_suffixEnd : ByteArray := prog_9_method_27_code
def yX7_suffixEnd : MethodName := ⟨RX7, "suffixEnd", "(III)I"⟩
abbrev cX7_findEnds : ByteArray := prog_9_method_28_code
def yX7_findEnds : MethodName := ⟨RX7, "findEnds", "()V"⟩
abbrev cX7_matchEnd : ByteArray := prog_9_method_29_code
def yX7_matchEnd : MethodName := ⟨RX7, "matchEnd", "(II)I"⟩
abbrev cX7_addNode : ByteArray := prog_9_method_30_code
def yX7_addNode : MethodName := ⟨RX7, "addNode", "(III)V"⟩
abbrev cX7_endOf : ByteArray := prog_9_method_31_code
def yX7_endOf : MethodName := ⟨RX7, "endOf", "(I)I"⟩
abbrev cX7_numberAt : ByteArray := prog_9_method_32_code
def yX7_numberAt : MethodName := ⟨RX7, "numberAt", "(I)I"⟩
abbrev cX7_followWater : ByteArray := prog_9_method_33_code
def yX7_followWater : MethodName := ⟨RX7, "followWater", "(III)I"⟩
abbrev cX7_follow : ByteArray := prog_9_method_34_code
def yX7_follow : MethodName := ⟨RX7, "follow", "(I)V"⟩
abbrev cX7_parse : ByteArray := prog_9_method_35_code
def yX7_parse : MethodName := ⟨RX7, "parse", "()V"⟩
abbrev cX7_foundOf : ByteArray := prog_9_method_36_code
def yX7_foundOf : MethodName := ⟨RX7, "foundOf", "(I)I"⟩
abbrev cX7_numberOf : ByteArray := prog_9_method_37_code
def yX7_numberOf : MethodName := ⟨RX7, "numberOf", "(I)I"⟩
abbrev cX7_depthOf : ByteArray := prog_9_method_38_code
def yX7_depthOf : MethodName := ⟨RX7, "depthOf", "(I)I"⟩
abbrev cX7_parentOf : ByteArray := prog_9_method_39_code
def yX7_parentOf : MethodName := ⟨RX7, "parentOf", "(I)I"⟩
abbrev cX7_askNode : ByteArray := prog_9_method_40_code
def yX7_askNode : MethodName := ⟨RX7, "askNode", "(II)I"⟩
abbrev cX7_nodeCount : ByteArray := prog_9_method_41_code
def yX7_nodeCount : MethodName := ⟨RX7, "nodeCount", "()I"⟩
abbrev cX7_islandCount : ByteArray := prog_9_method_42_code
def yX7_islandCount : MethodName := ⟨RX7, "islandCount", "()I"⟩
abbrev cX7_nodeRule : ByteArray := prog_9_method_43_code
def yX7_nodeRule : MethodName := ⟨RX7, "nodeRule", "(I)I"⟩
abbrev cX7_nodeStart : ByteArray := prog_9_method_44_code
def yX7_nodeStart : MethodName := ⟨RX7, "nodeStart", "(I)I"⟩
abbrev cX7_nodeEnd : ByteArray := prog_9_method_45_code
def yX7_nodeEnd : MethodName := ⟨RX7, "nodeEnd", "(I)I"⟩
abbrev cX7_nodeParent : ByteArray := prog_9_method_46_code
def yX7_nodeParent : MethodName := ⟨RX7, "nodeParent", "(I)I"⟩
abbrev cX7_nodeDepth : ByteArray := prog_9_method_47_code
def yX7_nodeDepth : MethodName := ⟨RX7, "nodeDepth", "(I)I"⟩
abbrev cX7_nodeWater : ByteArray := prog_9_method_48_code
def yX7_nodeWater : MethodName := ⟨RX7, "nodeWater", "(I)I"⟩
abbrev cX7_nodeNumber : ByteArray := prog_9_method_49_code
def yX7_nodeNumber : MethodName := ⟨RX7, "nodeNumber", "(I)I"⟩
abbrev cX7_nodeAt : ByteArray := prog_9_method_50_code
def yX7_nodeAt : MethodName := ⟨RX7, "nodeAt", "(I)I"⟩
abbrev cX7_waterLength : ByteArray := prog_9_method_51_code
def yX7_waterLength : MethodName := ⟨RX7, "waterLength", "()I"⟩
abbrev cX7_longestWater : ByteArray := prog_9_method_52_code
def yX7_longestWater : MethodName := ⟨RX7, "longestWater", "()I"⟩
abbrev cX7_countOf : ByteArray := prog_9_method_53_code
def yX7_countOf : MethodName := ⟨RX7, "countOf", "(I)I"⟩
abbrev cX7_undo : ByteArray := prog_9_method_54_code
def yX7_undo : MethodName := ⟨RX7, "undo", "()I"⟩
abbrev cX7_errorCount : ByteArray := prog_9_method_55_code
def yX7_errorCount : MethodName := ⟨RX7, "errorCount", "(I)I"⟩
abbrev cX7_mix : ByteArray := prog_9_method_56_code
def yX7_mix : MethodName := ⟨RX7, "mix", "(I)V"⟩
abbrev cX7_mixRules : ByteArray := prog_9_method_57_code
def yX7_mixRules : MethodName := ⟨RX7, "mixRules", "()V"⟩
abbrev cX7_digest : ByteArray := prog_9_method_58_code
def yX7_digest : MethodName := ⟨RX7, "digest", "()J"⟩
def RJ9 : String := "java/lang/Math"
def TJ9 : u_T := fun k => match k with
  | _ => ("", "", "", false)
def tyJ9 : Nat → FieldType := fun k => match k with
  | _ => .int
abbrev wsJ90 : List Cond := u_ws RJ9 TJ9 0
theorem nmJ9 : ∀ a, a < 0 → ∀ b, b < 0 → a ≠ b → (TJ9 a).2.1 ≠ (TJ9 b).2.1 := by decide +kernel
theorem tyJ9_ok : ∀ k, k < 0 → parseFieldDescriptor (TJ9 k).2.2.1 = some (tyJ9 k) := by decide +kernel
abbrev cJ9_max_7cf53 : ByteArray := prog_10_method_65_code
def yJ9_max_7cf53 : MethodName := ⟨RJ9, "max", "(II)I"⟩
abbrev cJ9_min_7cf53 : ByteArray := prog_10_method_69_code
def yJ9_min_7cf53 : MethodName := ⟨RJ9, "min", "(II)I"⟩
def RL : String := "IslandGrammarLaw"
abbrev cL_law : ByteArray := code
def yL_law : MethodName := ⟨RL, "law", "([I)Z"⟩
def wsL_law_r1 : List Cond := [Cond.classLink RL 7 RX6, Cond.instantiable RX6 8, Cond.initialized RX6, Cond.classLink RL 10 RX7, Cond.instantiable RX7 17, Cond.initialized RX7, Cond.methodLink RL 9 yX6_init, Cond.instanceMethod yX6_init, Cond.code yX6_init cX6_init 1 none, Cond.methodLink RX6 3 objectInit, Cond.instanceMethod objectInit, Cond.code objectInit ⟨#[0xb1]⟩ 1 none, Cond.classLink RX6 9 RX5, Cond.instantiable RX5 5, Cond.initialized RX5, Cond.fieldLink RX6 12 "IslandGrammar" "state" "LIslandGrammar$State;", Cond.classLink RX6 16 RX1, Cond.instantiable RX1 3, Cond.initialized RX1, Cond.fieldLink RX6 19 "IslandGrammar" "history" "LIslandGrammar$History;", Cond.classLink RX6 23 RX4, Cond.instantiable RX4 1, Cond.initialized RX4, Cond.fieldLink RX6 28 "IslandGrammar" "buffer" "LIslandGrammar$Row;"]
def wsL_law_r2 : List Cond := [Cond.fieldLink RX6 32 "IslandGrammar" "errors" "LIslandGrammar$Row;", Cond.classLink RX6 35 RX2, Cond.instantiable RX2 5, Cond.initialized RX2, Cond.fieldLink RX6 40 "IslandGrammar" "matcher" "LIslandGrammar$Matcher;", Cond.classLink RX6 44 RX3, Cond.instantiable RX3 16, Cond.initialized RX3, Cond.fieldLink RX6 49 "IslandGrammar" "nodes" "LIslandGrammar$Nodes;", Cond.fieldLink RX6 53 "IslandGrammar" "bufferSize" "I", Cond.fieldLink RX6 57 "IslandGrammar" "stale" "Z", Cond.methodLink RX6 11 yX5_init, Cond.instanceMethod yX5_init, Cond.code yX5_init cX5_init 1 none, Cond.methodLink RX5 3 objectInit, Cond.classLink RX5 9 RX4, Cond.fieldLink RX5 14 "IslandGrammar$State" "text" "LIslandGrammar$Row;", Cond.fieldLink RX5 20 "IslandGrammar$State" "patternSizes" "LIslandGrammar$Row;", Cond.fieldLink RX5 23 "IslandGrammar$State" "patterns" "LIslandGrammar$Row;", Cond.fieldLink RX5 26 "IslandGrammar$State" "stops" "LIslandGrammar$Row;", Cond.fieldLink RX5 29 "IslandGrammar$State" "textSize" "I", Cond.methodLink RX5 11 yX4_init, Cond.instanceMethod yX4_init, Cond.code yX4_init cX4_init 2 none]
def wsL_law_r3 : List Cond := [Cond.methodLink RX4 3 objectInit, Cond.arrayClass .int, Cond.fieldLink RX4 9 "IslandGrammar$Row" "cells" "[I", Cond.methodLink RX5 33 yX4_fill, Cond.instanceMethod yX4_fill, Cond.selects RX4 yX4_fill yX4_fill, Cond.code yX4_fill cX4_fill 3 none, Cond.instanceMethod yX1_init, Cond.code yX1_init cX1_init 1 none, Cond.methodLink RX1 3 objectInit, Cond.classLink RX1 9 RX5, Cond.fieldLink RX1 12 "IslandGrammar$History" "ring" "[LIslandGrammar$State;", Cond.fieldLink RX1 18 "IslandGrammar$History" "next" "I", Cond.fieldLink RX1 22 "IslandGrammar$History" "count" "I", Cond.methodLink RX1 11 yX5_init, Cond.methodLink RX6 25 yX4_init, Cond.methodLink RX6 37 yX2_init, Cond.instanceMethod yX2_init, Cond.code yX2_init cX2_init 2 none, Cond.methodLink RX2 3 objectInit, Cond.classLink RX2 9 RX4, Cond.fieldLink RX2 14 "IslandGrammar$Matcher" "digitEnds" "LIslandGrammar$Row;", Cond.fieldLink RX2 20 "IslandGrammar$Matcher" "letterEnds" "LIslandGrammar$Row;", Cond.fieldLink RX2 23 "IslandGrammar$Matcher" "firstRules" "LIslandGrammar$Row;"]
def wsL_law_r4 : List Cond := [Cond.classLink RX2 26 RX0, Cond.instantiable RX0 1, Cond.initialized RX0, Cond.fieldLink RX2 29 "IslandGrammar$Matcher" "restEnds" "LIslandGrammar$EndTable;", Cond.fieldLink RX2 33 "IslandGrammar$Matcher" "state" "LIslandGrammar$State;", Cond.methodLink RX2 11 yX4_init, Cond.instanceMethod yX0_init, Cond.code yX0_init cX0_init 1 none, Cond.methodLink RX0 3 objectInit, Cond.fieldLink RX0 11 "IslandGrammar$EndTable" "cells" "[I", Cond.methodLink RX6 46 yX3_init, Cond.instanceMethod yX3_init, Cond.code yX3_init cX3_init 3 none, Cond.methodLink RX3 3 objectInit, Cond.classLink RX3 9 RX4, Cond.fieldLink RX3 14 "IslandGrammar$Nodes" "rules" "LIslandGrammar$Row;", Cond.fieldLink RX3 20 "IslandGrammar$Nodes" "starts" "LIslandGrammar$Row;", Cond.fieldLink RX3 23 "IslandGrammar$Nodes" "ends" "LIslandGrammar$Row;", Cond.fieldLink RX3 26 "IslandGrammar$Nodes" "parents" "LIslandGrammar$Row;", Cond.fieldLink RX3 29 "IslandGrammar$Nodes" "depths" "LIslandGrammar$Row;", Cond.fieldLink RX3 32 "IslandGrammar$Nodes" "waters" "LIslandGrammar$Row;", Cond.fieldLink RX3 35 "IslandGrammar$Nodes" "numbers" "LIslandGrammar$Row;", Cond.fieldLink RX3 38 "IslandGrammar$Nodes" "dueRules" "LIslandGrammar$Row;", Cond.fieldLink RX3 41 "IslandGrammar$Nodes" "dueParents" "LIslandGrammar$Row;"]
def wsL_law_r5 : List Cond := [Cond.fieldLink RX3 44 "IslandGrammar$Nodes" "count" "I", Cond.fieldLink RX3 48 "IslandGrammar$Nodes" "topIslands" "I", Cond.fieldLink RX3 51 "IslandGrammar$Nodes" "topWater" "I", Cond.fieldLink RX3 54 "IslandGrammar$Nodes" "waterRun" "I", Cond.fieldLink RX3 57 "IslandGrammar$Nodes" "longestRun" "I", Cond.fieldLink RX3 60 "IslandGrammar$Nodes" "state" "LIslandGrammar$State;", Cond.fieldLink RX3 64 "IslandGrammar$Nodes" "matcher" "LIslandGrammar$Matcher;", Cond.methodLink RX3 11 yX4_init, Cond.methodLink RL 12 yX7_init, Cond.instanceMethod yX7_init, Cond.code yX7_init cX7_init 2 none, Cond.methodLink RX7 1 objectInit, Cond.fieldLink RX7 7 "IslandGrammarModel" "now" "[I", Cond.fieldLink RX7 13 "IslandGrammarModel" "history" "[I", Cond.fieldLink RX7 16 "IslandGrammarModel" "pattern" "[I", Cond.fieldLink RX7 19 "IslandGrammarModel" "errors" "[I", Cond.fieldLink RX7 22 "IslandGrammarModel" "ends" "[I", Cond.fieldLink RX7 25 "IslandGrammarModel" "foundRule" "[I", Cond.fieldLink RX7 28 "IslandGrammarModel" "foundStart" "[I", Cond.fieldLink RX7 31 "IslandGrammarModel" "foundParent" "[I", Cond.fieldLink RX7 34 "IslandGrammarModel" "foundWater" "[I", Cond.fieldLink RX7 37 "IslandGrammarModel" "foundNumber" "[I", Cond.methodLink RL 13 yX6_insert, Cond.instanceMethod yX6_insert]
def wsL_law_r6 : List Cond := [Cond.selects RX6 yX6_insert yX6_insert, Cond.code yX6_insert cX6_insert 3 (some .int), Cond.methodLink RX6 61 yX5_textSize, Cond.instanceMethod yX5_textSize, Cond.selects RX5 yX5_textSize yX5_textSize, Cond.code yX5_textSize cX5_textSize 1 (some .int), Cond.methodLink RX6 65 yX6_isByte, Cond.static yX6_isByte, Cond.code yX6_isByte cX6_isByte 1 (some .boolean), Cond.methodLink RX6 69 yX6_fail, Cond.instanceMethod yX6_fail, Cond.selects RX6 yX6_fail yX6_fail, Cond.code yX6_fail cX6_fail 3 (some .int), Cond.methodLink RX6 98 yX4_get, Cond.instanceMethod yX4_get, Cond.selects RX4 yX4_get yX4_get, Cond.code yX4_get cX4_get 2 (some .int), Cond.methodLink RX6 92 yX4_set, Cond.instanceMethod yX4_set, Cond.selects RX4 yX4_set yX4_set, Cond.code yX4_set cX4_set 3 none, Cond.methodLink RX6 73 yX6_prepareChange, Cond.instanceMethod yX6_prepareChange, Cond.selects RX6 yX6_prepareChange yX6_prepareChange]
def wsL_law_r7 : List Cond := [Cond.code yX6_prepareChange cX6_prepareChange 1 none, Cond.methodLink RX6 194 yX1_save, Cond.instanceMethod yX1_save, Cond.selects RX1 yX1_save yX1_save, Cond.code yX1_save cX1_save 2 none, Cond.methodLink RX1 33 Lib.Math.min.name, Cond.static Lib.Math.min.name, Cond.initialized "java/lang/Math", Cond.code Lib.Math.min.name Lib.Math.min.code 2 (some .int), Cond.methodLink RX1 25 yX1_slotAt, Cond.instanceMethod yX1_slotAt, Cond.selects RX1 yX1_slotAt yX1_slotAt, Cond.code yX1_slotAt cX1_slotAt 2 (some (.object "IslandGrammar$State")), Cond.methodLink RX1 29 yX5_copyFrom, Cond.instanceMethod yX5_copyFrom, Cond.selects RX5 yX5_copyFrom yX5_copyFrom, Cond.code yX5_copyFrom cX5_copyFrom 2 none, Cond.methodLink RX5 48 yX4_copyFrom, Cond.instanceMethod yX4_copyFrom, Cond.selects RX4 yX4_copyFrom yX4_copyFrom, Cond.code yX4_copyFrom cX4_copyFrom 4 none, Cond.methodLink RX4 15 Lib.Math.min.name, Cond.methodLink RX6 76 yX5_insertByte, Cond.instanceMethod yX5_insertByte]
def wsL_law_r8 : List Cond := [Cond.selects RX5 yX5_insertByte yX5_insertByte, Cond.code yX5_insertByte cX5_insertByte 4 none, Cond.methodLink RX5 36 yX4_get, Cond.methodLink RX5 40 yX4_set, Cond.methodLink RL 17 yX7_insert, Cond.instanceMethod yX7_insert, Cond.selects RX7 yX7_insert yX7_insert, Cond.code yX7_insert cX7_insert 4 (some .int), Cond.methodLink RX7 44 yX7_in, Cond.static yX7_in, Cond.code yX7_in cX7_in 3 (some .boolean), Cond.methodLink RX7 48 yX7_isByte, Cond.static yX7_isByte, Cond.code yX7_isByte cX7_isByte 1 (some .boolean), Cond.methodLink RX7 52 yX7_fail, Cond.instanceMethod yX7_fail, Cond.selects RX7 yX7_fail yX7_fail, Cond.code yX7_fail cX7_fail 2 (some .int), Cond.methodLink RX7 56 yX7_save, Cond.instanceMethod yX7_save, Cond.selects RX7 yX7_save yX7_save, Cond.code yX7_save cX7_save 2 none, Cond.fieldLink RX7 40 "IslandGrammarModel" "depth" "I", Cond.methodLink RL 18 yX6_replace]
def wsL_law_r9 : List Cond := [Cond.instanceMethod yX6_replace, Cond.selects RX6 yX6_replace yX6_replace, Cond.code yX6_replace cX6_replace 4 (some .int), Cond.methodLink RX6 80 yX6_isInText, Cond.instanceMethod yX6_isInText, Cond.selects RX6 yX6_isInText yX6_isInText, Cond.code yX6_isInText cX6_isInText 2 (some .boolean), Cond.methodLink RX6 83 yX5_textAt, Cond.instanceMethod yX5_textAt, Cond.selects RX5 yX5_textAt yX5_textAt, Cond.code yX5_textAt cX5_textAt 2 (some .int), Cond.methodLink RX6 86 yX5_setByte, Cond.instanceMethod yX5_setByte, Cond.selects RX5 yX5_setByte yX5_setByte, Cond.code yX5_setByte cX5_setByte 3 none, Cond.methodLink RL 21 yX7_replace, Cond.instanceMethod yX7_replace, Cond.selects RX7 yX7_replace yX7_replace, Cond.code yX7_replace cX7_replace 4 (some .int), Cond.methodLink RX7 59 yX7_isPosition, Cond.instanceMethod yX7_isPosition, Cond.selects RX7 yX7_isPosition yX7_isPosition, Cond.code yX7_isPosition cX7_isPosition 2 (some .boolean), Cond.methodLink RL 22 yX6_delete]
def wsL_law_r10 : List Cond := [Cond.instanceMethod yX6_delete, Cond.selects RX6 yX6_delete yX6_delete, Cond.code yX6_delete cX6_delete 3 (some .int), Cond.methodLink RX6 89 yX5_removeBytes, Cond.instanceMethod yX5_removeBytes, Cond.selects RX5 yX5_removeBytes yX5_removeBytes, Cond.code yX5_removeBytes cX5_removeBytes 4 none, Cond.methodLink RL 25 yX7_delete, Cond.instanceMethod yX7_delete, Cond.selects RX7 yX7_delete yX7_delete, Cond.code yX7_delete cX7_delete 4 (some .int), Cond.methodLink RL 26 yX6_length, Cond.instanceMethod yX6_length, Cond.selects RX6 yX6_length yX6_length, Cond.code yX6_length cX6_length 1 (some .int), Cond.methodLink RL 30 yX7_length, Cond.instanceMethod yX7_length, Cond.selects RX7 yX7_length yX7_length, Cond.code yX7_length cX7_length 1 (some .int), Cond.methodLink RL 31 yX6_byteAt, Cond.instanceMethod yX6_byteAt, Cond.selects RX6 yX6_byteAt yX6_byteAt, Cond.code yX6_byteAt cX6_byteAt 2 (some .int), Cond.methodLink RL 35 yX7_byteAt]
def wsL_law_r11 : List Cond := [Cond.instanceMethod yX7_byteAt, Cond.selects RX7 yX7_byteAt yX7_byteAt, Cond.code yX7_byteAt cX7_byteAt 2 (some .int), Cond.methodLink RL 36 yX6_append, Cond.instanceMethod yX6_append, Cond.selects RX6 yX6_append yX6_append, Cond.code yX6_append cX6_append 2 (some .int), Cond.methodLink RL 39 yX7_append, Cond.instanceMethod yX7_append, Cond.selects RX7 yX7_append yX7_append, Cond.code yX7_append cX7_append 2 (some .int), Cond.fieldLink RX7 62 "IslandGrammarModel" "patternLength" "I", Cond.methodLink RL 40 yX6_clearPattern, Cond.instanceMethod yX6_clearPattern, Cond.selects RX6 yX6_clearPattern yX6_clearPattern, Cond.code yX6_clearPattern cX6_clearPattern 2 (some .int), Cond.methodLink RL 43 yX7_clearPattern, Cond.instanceMethod yX7_clearPattern, Cond.selects RX7 yX7_clearPattern yX7_clearPattern, Cond.code yX7_clearPattern cX7_clearPattern 2 (some .int), Cond.methodLink RL 44 yX6_define, Cond.instanceMethod yX6_define, Cond.selects RX6 yX6_define yX6_define, Cond.code yX6_define cX6_define 2 (some .int)]
def wsL_law_r12 : List Cond := [Cond.methodLink RX6 95 yX6_isRule, Cond.static yX6_isRule, Cond.code yX6_isRule cX6_isRule 1 (some .boolean), Cond.methodLink RX6 101 yX6_canStartPattern, Cond.static yX6_canStartPattern, Cond.code yX6_canStartPattern cX6_canStartPattern 1 (some .boolean), Cond.methodLink RX6 189 yX6_isReference, Cond.static yX6_isReference, Cond.code yX6_isReference cX6_isReference 1 (some .boolean), Cond.methodLink RX6 104 yX5_setPattern, Cond.instanceMethod yX5_setPattern, Cond.selects RX5 yX5_setPattern yX5_setPattern, Cond.code yX5_setPattern cX5_setPattern 5 none, Cond.methodLink RL 47 yX7_define, Cond.instanceMethod yX7_define, Cond.selects RX7 yX7_define yX7_define, Cond.code yX7_define cX7_define 3 (some .int), Cond.methodLink RX7 65 yX7_isRule, Cond.static yX7_isRule, Cond.code yX7_isRule cX7_isRule 1 (some .boolean), Cond.methodLink RX7 68 yX7_isReference, Cond.static yX7_isReference, Cond.code yX7_isReference cX7_isReference 1 (some .boolean), Cond.methodLink RL 48 yX6_undefine]
def wsL_law_r13 : List Cond := [Cond.instanceMethod yX6_undefine, Cond.selects RX6 yX6_undefine yX6_undefine, Cond.code yX6_undefine cX6_undefine 3 (some .int), Cond.methodLink RX6 108 yX5_patternSize, Cond.instanceMethod yX5_patternSize, Cond.selects RX5 yX5_patternSize yX5_patternSize, Cond.code yX5_patternSize cX5_patternSize 2 (some .int), Cond.methodLink RL 51 yX7_undefine, Cond.instanceMethod yX7_undefine, Cond.selects RX7 yX7_undefine yX7_undefine, Cond.code yX7_undefine cX7_undefine 3 (some .int), Cond.methodLink RL 52 yX6_setStop, Cond.instanceMethod yX6_setStop, Cond.selects RX6 yX6_setStop yX6_setStop, Cond.code yX6_setStop cX6_setStop 4 (some .int), Cond.methodLink RX6 111 yX5_stopOf, Cond.instanceMethod yX5_stopOf, Cond.selects RX5 yX5_stopOf yX5_stopOf, Cond.code yX5_stopOf cX5_stopOf 2 (some .int), Cond.methodLink RX6 114 yX5_putStop, Cond.instanceMethod yX5_putStop, Cond.selects RX5 yX5_putStop yX5_putStop, Cond.code yX5_putStop cX5_putStop 3 none, Cond.methodLink RL 55 yX7_setStop]
def wsL_law_r14 : List Cond := [Cond.instanceMethod yX7_setStop, Cond.selects RX7 yX7_setStop yX7_setStop, Cond.code yX7_setStop cX7_setStop 4 (some .int), Cond.methodLink RL 56 yX6_element, Cond.instanceMethod yX6_element, Cond.selects RX6 yX6_element yX6_element, Cond.code yX6_element cX6_element 3 (some .int), Cond.methodLink RX6 117 yX5_patternAt, Cond.instanceMethod yX5_patternAt, Cond.selects RX5 yX5_patternAt yX5_patternAt, Cond.code yX5_patternAt cX5_patternAt 3 (some .int), Cond.methodLink RL 59 yX7_element, Cond.instanceMethod yX7_element, Cond.selects RX7 yX7_element yX7_element, Cond.code yX7_element cX7_element 3 (some .int), Cond.methodLink RX7 71 yX7_elementOf, Cond.instanceMethod yX7_elementOf, Cond.selects RX7 yX7_elementOf yX7_elementOf, Cond.code yX7_elementOf cX7_elementOf 3 (some .int), Cond.methodLink RL 60 yX6_matchEnd, Cond.instanceMethod yX6_matchEnd, Cond.selects RX6 yX6_matchEnd yX6_matchEnd, Cond.code yX6_matchEnd cX6_matchEnd 3 (some .int), Cond.methodLink RX6 121 yX6_refresh]
def wsL_law_r15 : List Cond := [Cond.instanceMethod yX6_refresh, Cond.selects RX6 yX6_refresh yX6_refresh, Cond.code yX6_refresh cX6_refresh 1 none, Cond.methodLink RX6 197 yX2_update, Cond.instanceMethod yX2_update, Cond.selects RX2 yX2_update yX2_update, Cond.code yX2_update cX2_update 3 none, Cond.methodLink RX2 37 yX5_textSize, Cond.methodLink RX2 43 yX2_markRuns, Cond.instanceMethod yX2_markRuns, Cond.selects RX2 yX2_markRuns yX2_markRuns, Cond.code yX2_markRuns cX2_markRuns 3 none, Cond.methodLink RX2 64 yX5_textAt, Cond.static yX6_isDigit, Cond.code yX6_isDigit cX6_isDigit 1 (some .boolean), Cond.methodLink RX2 70 yX2_runEnd, Cond.static yX2_runEnd, Cond.code yX2_runEnd cX2_runEnd 3 (some .int), Cond.methodLink RX2 57 yX4_get, Cond.methodLink RX2 74 yX4_set, Cond.static yX6_isLetter, Cond.code yX6_isLetter cX6_isLetter 1 (some .boolean), Cond.methodLink RX2 46 yX2_matchIslands, Cond.instanceMethod yX2_matchIslands]
def wsL_law_r16 : List Cond := [Cond.selects RX2 yX2_matchIslands yX2_matchIslands, Cond.code yX2_matchIslands cX2_matchIslands 5 none, Cond.methodLink RX2 80 yX5_patternSize, Cond.methodLink RX2 83 yX5_patternAt, Cond.methodLink RX2 87 yX2_elementEnd, Cond.instanceMethod yX2_elementEnd, Cond.selects RX2 yX2_elementEnd yX2_elementEnd, Cond.code yX2_elementEnd cX2_elementEnd 3 (some .int), Cond.methodLink RX2 53 yX0_get, Cond.instanceMethod yX0_get, Cond.selects RX0 yX0_get yX0_get, Cond.code yX0_get cX0_get 5 (some .int), Cond.methodLink RX2 90 yX0_set, Cond.instanceMethod yX0_set, Cond.selects RX0 yX0_set yX0_set, Cond.code yX0_set cX0_set 6 none, Cond.methodLink RX2 49 yX2_matchRests, Cond.instanceMethod yX2_matchRests, Cond.selects RX2 yX2_matchRests yX2_matchRests, Cond.code yX2_matchRests cX2_matchRests 7 none, Cond.methodLink RX2 93 yX2_waterRestEnd, Cond.instanceMethod yX2_waterRestEnd, Cond.selects RX2 yX2_waterRestEnd yX2_waterRestEnd, Cond.code yX2_waterRestEnd cX2_waterRestEnd 7 (some .int)]
def wsL_law_r17 : List Cond := [Cond.methodLink RX2 96 yX5_stopOf, Cond.methodLink RX6 200 yX3_update, Cond.instanceMethod yX3_update, Cond.selects RX3 yX3_update yX3_update, Cond.code yX3_update cX3_update 4 none, Cond.methodLink RX3 68 yX3_clear, Cond.instanceMethod yX3_clear, Cond.selects RX3 yX3_clear yX3_clear, Cond.code yX3_clear cX3_clear 1 none, Cond.methodLink RX3 94 yX4_fill, Cond.methodLink RX3 71 yX5_textSize, Cond.methodLink RX3 77 yX3_takeTopLevel, Cond.instanceMethod yX3_takeTopLevel, Cond.selects RX3 yX3_takeTopLevel yX3_takeTopLevel, Cond.code yX3_takeTopLevel cX3_takeTopLevel 3 (some .int), Cond.methodLink RX3 102 Lib.Math.max.name, Cond.static Lib.Math.max.name, Cond.code Lib.Math.max.name Lib.Math.max.code 2 (some .int), Cond.methodLink RX3 97 yX2_firstRule, Cond.instanceMethod yX2_firstRule, Cond.selects RX2 yX2_firstRule yX2_firstRule, Cond.code yX2_firstRule cX2_firstRule 2 (some .int), Cond.methodLink RX3 108 yX3_announce, Cond.instanceMethod yX3_announce]
def wsL_law_r18 : List Cond := [Cond.selects RX3 yX3_announce yX3_announce, Cond.code yX3_announce cX3_announce 4 none, Cond.methodLink RX3 115 yX4_set, Cond.methodLink RX3 112 yX2_islandEnd, Cond.instanceMethod yX2_islandEnd, Cond.selects RX2 yX2_islandEnd yX2_islandEnd, Cond.code yX2_islandEnd cX2_islandEnd 3 (some .int), Cond.methodLink RX3 81 yX4_get, Cond.methodLink RX3 84 yX3_addNode, Cond.instanceMethod yX3_addNode, Cond.selects RX3 yX3_addNode yX3_addNode, Cond.code yX3_addNode cX3_addNode 4 none, Cond.methodLink RX3 87 yX3_walkPattern, Cond.instanceMethod yX3_walkPattern, Cond.selects RX3 yX3_walkPattern yX3_walkPattern, Cond.code yX3_walkPattern cX3_walkPattern 8 none, Cond.methodLink RX3 119 yX5_patternSize, Cond.methodLink RX3 122 yX5_patternAt, Cond.methodLink RX3 125 yX3_walkWater, Cond.instanceMethod yX3_walkWater, Cond.selects RX3 yX3_walkWater yX3_walkWater, Cond.code yX3_walkWater cX3_walkWater 8 (some .int), Cond.methodLink RX3 139 yX2_restMatches, Cond.instanceMethod yX2_restMatches]
def wsL_law_r19 : List Cond := [Cond.selects RX2 yX2_restMatches yX2_restMatches, Cond.code yX2_restMatches cX2_restMatches 4 (some .boolean), Cond.methodLink RX3 129 yX2_elementEnd, Cond.methodLink RX3 136 yX5_numberBetween, Cond.instanceMethod yX5_numberBetween, Cond.selects RX5 yX5_numberBetween yX5_numberBetween, Cond.code yX5_numberBetween cX5_numberBetween 5 (some .int), Cond.constant RX5 47 (1000000), Cond.methodLink RX5 44 yX5_textAt, Cond.methodLink RX6 124 yX2_islandEnd, Cond.methodLink RL 63 yX7_matchEnd, Cond.instanceMethod yX7_matchEnd, Cond.selects RX7 yX7_matchEnd yX7_matchEnd, Cond.code yX7_matchEnd cX7_matchEnd 3 (some .int), Cond.methodLink RX7 97 yX7_findEnds, Cond.instanceMethod yX7_findEnds, Cond.selects RX7 yX7_findEnds yX7_findEnds, Cond.code yX7_findEnds cX7_findEnds 4 none, Cond.methodLink RX7 78 yX7_cell, Cond.static yX7_cell, Cond.code yX7_cell cX7_cell 3 (some .int), Cond.methodLink RX7 94 yX7_suffixEnd, Cond.instanceMethod yX7_suffixEnd, Cond.selects RX7 yX7_suffixEnd yX7_suffixEnd]
def wsL_law_r20 : List Cond := [Cond.code yX7_suffixEnd cX7_suffixEnd 6 (some .int), Cond.methodLink RX7 88 yX7_waterEnd, Cond.instanceMethod yX7_waterEnd, Cond.selects RX7 yX7_waterEnd yX7_waterEnd, Cond.code yX7_waterEnd cX7_waterEnd 7 (some .int), Cond.methodLink RX7 85 yX7_islandAt, Cond.instanceMethod yX7_islandAt, Cond.selects RX7 yX7_islandAt yX7_islandAt, Cond.code yX7_islandAt cX7_islandAt 3 (some .int), Cond.methodLink RX7 91 yX7_elementEnd, Cond.instanceMethod yX7_elementEnd, Cond.selects RX7 yX7_elementEnd yX7_elementEnd, Cond.code yX7_elementEnd cX7_elementEnd 4 (some .int), Cond.methodLink RX7 82 yX7_runEnd, Cond.instanceMethod yX7_runEnd, Cond.selects RX7 yX7_runEnd yX7_runEnd, Cond.code yX7_runEnd cX7_runEnd 5 (some .int), Cond.methodLink RX7 75 yX7_isOf, Cond.instanceMethod yX7_isOf, Cond.selects RX7 yX7_isOf yX7_isOf, Cond.code yX7_isOf cX7_isOf 4 (some .boolean), Cond.methodLink RL 64 yX6_nodeCount, Cond.instanceMethod yX6_nodeCount, Cond.selects RX6 yX6_nodeCount yX6_nodeCount]
def wsL_law_r21 : List Cond := [Cond.code yX6_nodeCount cX6_nodeCount 1 (some .int), Cond.methodLink RX6 127 yX3_total, Cond.instanceMethod yX3_total, Cond.selects RX3 yX3_total yX3_total, Cond.code yX3_total cX3_total 1 (some .int), Cond.methodLink RL 67 yX7_nodeCount, Cond.instanceMethod yX7_nodeCount, Cond.selects RX7 yX7_nodeCount yX7_nodeCount, Cond.code yX7_nodeCount cX7_nodeCount 1 (some .int), Cond.fieldLink RX7 100 "IslandGrammarModel" "nodes" "I", Cond.methodLink RX7 130 yX7_parse, Cond.instanceMethod yX7_parse, Cond.selects RX7 yX7_parse yX7_parse, Cond.code yX7_parse cX7_parse 4 none, Cond.fieldLink RX7 114 "IslandGrammarModel" "water" "I", Cond.fieldLink RX7 117 "IslandGrammarModel" "longest" "I", Cond.fieldLink RX7 120 "IslandGrammarModel" "islands" "I", Cond.methodLink RX7 104 yX7_addNode, Cond.instanceMethod yX7_addNode, Cond.selects RX7 yX7_addNode yX7_addNode, Cond.code yX7_addNode cX7_addNode 4 none, Cond.methodLink RX7 123 yX7_follow, Cond.instanceMethod yX7_follow, Cond.selects RX7 yX7_follow yX7_follow]
def wsL_law_r22 : List Cond := [Cond.code yX7_follow cX7_follow 6 none, Cond.methodLink RX7 108 yX7_followWater, Cond.instanceMethod yX7_followWater, Cond.selects RX7 yX7_followWater yX7_followWater, Cond.code yX7_followWater cX7_followWater 6 (some .int), Cond.methodLink RX7 111 yX7_numberAt, Cond.instanceMethod yX7_numberAt, Cond.selects RX7 yX7_numberAt yX7_numberAt, Cond.code yX7_numberAt cX7_numberAt 4 (some .int), Cond.constant RX7 103 (1000000), Cond.methodLink RL 68 yX6_islandCount, Cond.instanceMethod yX6_islandCount, Cond.selects RX6 yX6_islandCount yX6_islandCount, Cond.code yX6_islandCount cX6_islandCount 1 (some .int), Cond.methodLink RX6 130 yX3_topLevelTotal, Cond.instanceMethod yX3_topLevelTotal, Cond.selects RX3 yX3_topLevelTotal yX3_topLevelTotal, Cond.code yX3_topLevelTotal cX3_topLevelTotal 1 (some .int), Cond.methodLink RL 71 yX7_islandCount, Cond.instanceMethod yX7_islandCount, Cond.selects RX7 yX7_islandCount yX7_islandCount, Cond.code yX7_islandCount cX7_islandCount 1 (some .int), Cond.methodLink RL 72 yX6_nodeRule, Cond.instanceMethod yX6_nodeRule]
def wsL_law_r23 : List Cond := [Cond.selects RX6 yX6_nodeRule yX6_nodeRule, Cond.code yX6_nodeRule cX6_nodeRule 2 (some .int), Cond.methodLink RX6 133 yX3_has, Cond.instanceMethod yX3_has, Cond.selects RX3 yX3_has yX3_has, Cond.code yX3_has cX3_has 2 (some .boolean), Cond.methodLink RX6 136 yX3_ruleOf, Cond.instanceMethod yX3_ruleOf, Cond.selects RX3 yX3_ruleOf yX3_ruleOf, Cond.code yX3_ruleOf cX3_ruleOf 2 (some .int), Cond.methodLink RL 75 yX7_nodeRule, Cond.instanceMethod yX7_nodeRule, Cond.selects RX7 yX7_nodeRule yX7_nodeRule, Cond.code yX7_nodeRule cX7_nodeRule 2 (some .int), Cond.methodLink RX7 145 yX7_askNode, Cond.instanceMethod yX7_askNode, Cond.selects RX7 yX7_askNode yX7_askNode, Cond.code yX7_askNode cX7_askNode 4 (some .int), Cond.methodLink RX7 133 yX7_foundOf, Cond.instanceMethod yX7_foundOf, Cond.selects RX7 yX7_foundOf yX7_foundOf, Cond.code yX7_foundOf cX7_foundOf 3 (some .int), Cond.methodLink RX7 127 yX7_numberOf, Cond.instanceMethod yX7_numberOf]
def wsL_law_r24 : List Cond := [Cond.selects RX7 yX7_numberOf yX7_numberOf, Cond.code yX7_numberOf cX7_numberOf 4 (some .int), Cond.methodLink RX7 136 yX7_endOf, Cond.instanceMethod yX7_endOf, Cond.selects RX7 yX7_endOf yX7_endOf, Cond.code yX7_endOf cX7_endOf 2 (some .int), Cond.methodLink RX7 139 yX7_parentOf, Cond.instanceMethod yX7_parentOf, Cond.selects RX7 yX7_parentOf yX7_parentOf, Cond.code yX7_parentOf cX7_parentOf 2 (some .int), Cond.methodLink RX7 142 yX7_depthOf, Cond.instanceMethod yX7_depthOf, Cond.selects RX7 yX7_depthOf yX7_depthOf, Cond.code yX7_depthOf cX7_depthOf 4 (some .int), Cond.methodLink RL 76 yX6_nodeStart, Cond.instanceMethod yX6_nodeStart, Cond.selects RX6 yX6_nodeStart yX6_nodeStart, Cond.code yX6_nodeStart cX6_nodeStart 2 (some .int), Cond.methodLink RX6 139 yX3_startOf, Cond.instanceMethod yX3_startOf, Cond.selects RX3 yX3_startOf yX3_startOf, Cond.code yX3_startOf cX3_startOf 2 (some .int), Cond.methodLink RL 79 yX7_nodeStart, Cond.instanceMethod yX7_nodeStart]
def wsL_law_r25 : List Cond := [Cond.selects RX7 yX7_nodeStart yX7_nodeStart, Cond.code yX7_nodeStart cX7_nodeStart 2 (some .int), Cond.methodLink RL 80 yX6_nodeEnd, Cond.instanceMethod yX6_nodeEnd, Cond.selects RX6 yX6_nodeEnd yX6_nodeEnd, Cond.code yX6_nodeEnd cX6_nodeEnd 2 (some .int), Cond.methodLink RX6 142 yX3_endOf, Cond.instanceMethod yX3_endOf, Cond.selects RX3 yX3_endOf yX3_endOf, Cond.code yX3_endOf cX3_endOf 2 (some .int), Cond.methodLink RL 83 yX7_nodeEnd, Cond.instanceMethod yX7_nodeEnd, Cond.selects RX7 yX7_nodeEnd yX7_nodeEnd, Cond.code yX7_nodeEnd cX7_nodeEnd 2 (some .int), Cond.methodLink RL 84 yX6_nodeParent, Cond.instanceMethod yX6_nodeParent, Cond.selects RX6 yX6_nodeParent yX6_nodeParent, Cond.code yX6_nodeParent cX6_nodeParent 2 (some .int), Cond.methodLink RX6 145 yX3_parentOf, Cond.instanceMethod yX3_parentOf, Cond.selects RX3 yX3_parentOf yX3_parentOf, Cond.code yX3_parentOf cX3_parentOf 2 (some .int), Cond.methodLink RL 87 yX7_nodeParent, Cond.instanceMethod yX7_nodeParent]
def wsL_law_r26 : List Cond := [Cond.selects RX7 yX7_nodeParent yX7_nodeParent, Cond.code yX7_nodeParent cX7_nodeParent 2 (some .int), Cond.methodLink RL 88 yX6_nodeDepth, Cond.instanceMethod yX6_nodeDepth, Cond.selects RX6 yX6_nodeDepth yX6_nodeDepth, Cond.code yX6_nodeDepth cX6_nodeDepth 2 (some .int), Cond.methodLink RX6 148 yX3_depthOf, Cond.instanceMethod yX3_depthOf, Cond.selects RX3 yX3_depthOf yX3_depthOf, Cond.code yX3_depthOf cX3_depthOf 2 (some .int), Cond.methodLink RL 91 yX7_nodeDepth, Cond.instanceMethod yX7_nodeDepth, Cond.selects RX7 yX7_nodeDepth yX7_nodeDepth, Cond.code yX7_nodeDepth cX7_nodeDepth 2 (some .int), Cond.methodLink RL 92 yX6_nodeWater, Cond.instanceMethod yX6_nodeWater, Cond.selects RX6 yX6_nodeWater yX6_nodeWater, Cond.code yX6_nodeWater cX6_nodeWater 2 (some .int), Cond.methodLink RX6 151 yX3_waterOf, Cond.instanceMethod yX3_waterOf, Cond.selects RX3 yX3_waterOf yX3_waterOf, Cond.code yX3_waterOf cX3_waterOf 2 (some .int), Cond.methodLink RL 95 yX7_nodeWater, Cond.instanceMethod yX7_nodeWater]
def wsL_law_r27 : List Cond := [Cond.selects RX7 yX7_nodeWater yX7_nodeWater, Cond.code yX7_nodeWater cX7_nodeWater 2 (some .int), Cond.methodLink RL 96 yX6_nodeNumber, Cond.instanceMethod yX6_nodeNumber, Cond.selects RX6 yX6_nodeNumber yX6_nodeNumber, Cond.code yX6_nodeNumber cX6_nodeNumber 2 (some .int), Cond.methodLink RX6 154 yX3_numberOf, Cond.instanceMethod yX3_numberOf, Cond.selects RX3 yX3_numberOf yX3_numberOf, Cond.code yX3_numberOf cX3_numberOf 2 (some .int), Cond.methodLink RL 99 yX7_nodeNumber, Cond.instanceMethod yX7_nodeNumber, Cond.selects RX7 yX7_nodeNumber yX7_nodeNumber, Cond.code yX7_nodeNumber cX7_nodeNumber 2 (some .int), Cond.methodLink RL 100 yX6_nodeAt, Cond.instanceMethod yX6_nodeAt, Cond.selects RX6 yX6_nodeAt yX6_nodeAt, Cond.code yX6_nodeAt cX6_nodeAt 2 (some .int), Cond.methodLink RX6 157 yX3_innermostAt, Cond.instanceMethod yX3_innermostAt, Cond.selects RX3 yX3_innermostAt yX3_innermostAt, Cond.code yX3_innermostAt cX3_innermostAt 3 (some .int), Cond.methodLink RL 103 yX7_nodeAt, Cond.instanceMethod yX7_nodeAt]
def wsL_law_r28 : List Cond := [Cond.selects RX7 yX7_nodeAt yX7_nodeAt, Cond.code yX7_nodeAt cX7_nodeAt 5 (some .int), Cond.methodLink RL 104 yX6_waterLength, Cond.instanceMethod yX6_waterLength, Cond.selects RX6 yX6_waterLength yX6_waterLength, Cond.code yX6_waterLength cX6_waterLength 1 (some .int), Cond.methodLink RX6 160 yX3_topWater, Cond.instanceMethod yX3_topWater, Cond.selects RX3 yX3_topWater yX3_topWater, Cond.code yX3_topWater cX3_topWater 1 (some .int), Cond.methodLink RL 107 yX7_waterLength, Cond.instanceMethod yX7_waterLength, Cond.selects RX7 yX7_waterLength yX7_waterLength, Cond.code yX7_waterLength cX7_waterLength 1 (some .int), Cond.methodLink RL 108 yX6_longestWater, Cond.instanceMethod yX6_longestWater, Cond.selects RX6 yX6_longestWater yX6_longestWater, Cond.code yX6_longestWater cX6_longestWater 1 (some .int), Cond.methodLink RX6 163 yX3_longestTopWater, Cond.instanceMethod yX3_longestTopWater, Cond.selects RX3 yX3_longestTopWater yX3_longestTopWater, Cond.code yX3_longestTopWater cX3_longestTopWater 1 (some .int), Cond.methodLink RL 111 yX7_longestWater, Cond.instanceMethod yX7_longestWater]
def wsL_law_r29 : List Cond := [Cond.selects RX7 yX7_longestWater yX7_longestWater, Cond.code yX7_longestWater cX7_longestWater 1 (some .int), Cond.methodLink RL 112 yX6_countOf, Cond.instanceMethod yX6_countOf, Cond.selects RX6 yX6_countOf yX6_countOf, Cond.code yX6_countOf cX6_countOf 2 (some .int), Cond.methodLink RX6 166 yX3_totalOf, Cond.instanceMethod yX3_totalOf, Cond.selects RX3 yX3_totalOf yX3_totalOf, Cond.code yX3_totalOf cX3_totalOf 4 (some .int), Cond.methodLink RL 115 yX7_countOf, Cond.instanceMethod yX7_countOf, Cond.selects RX7 yX7_countOf yX7_countOf, Cond.code yX7_countOf cX7_countOf 4 (some .int), Cond.methodLink RL 116 yX6_undo, Cond.instanceMethod yX6_undo, Cond.selects RX6 yX6_undo yX6_undo, Cond.code yX6_undo cX6_undo 1 (some .int), Cond.methodLink RX6 169 yX1_savedCount, Cond.instanceMethod yX1_savedCount, Cond.selects RX1 yX1_savedCount yX1_savedCount, Cond.code yX1_savedCount cX1_savedCount 1 (some .int), Cond.methodLink RX6 172 yX1_restore, Cond.instanceMethod yX1_restore]
def wsL_law_r30 : List Cond := [Cond.selects RX1 yX1_restore yX1_restore, Cond.code yX1_restore cX1_restore 2 none, Cond.methodLink RX1 39 Lib.Math.max.name, Cond.methodLink RL 119 yX7_undo, Cond.instanceMethod yX7_undo, Cond.selects RX7 yX7_undo yX7_undo, Cond.code yX7_undo cX7_undo 2 (some .int), Cond.methodLink RL 120 yX6_errorCount, Cond.instanceMethod yX6_errorCount, Cond.selects RX6 yX6_errorCount yX6_errorCount, Cond.code yX6_errorCount cX6_errorCount 2 (some .int), Cond.methodLink RL 123 yX7_errorCount, Cond.instanceMethod yX7_errorCount, Cond.selects RX7 yX7_errorCount yX7_errorCount, Cond.code yX7_errorCount cX7_errorCount 2 (some .int), Cond.methodLink RL 124 yX6_digest, Cond.instanceMethod yX6_digest, Cond.selects RX6 yX6_digest yX6_digest, Cond.code yX6_digest cX6_digest 3 (some .long), Cond.constantLong RX6 175 (17305), Cond.methodLink RX6 177 yX4_mixInto, Cond.instanceMethod yX4_mixInto, Cond.selects RX4 yX4_mixInto yX4_mixInto, Cond.code yX4_mixInto cX4_mixInto 8 (some .long)]
def wsL_law_r31 : List Cond := [Cond.methodLink RX4 21 yX4_get, Cond.static yX6_mix, Cond.code yX6_mix cX6_mix 4 (some .long), Cond.constantLong RX6 192 (31), Cond.methodLink RX6 181 yX6_mix, Cond.methodLink RX6 185 yX5_mixInto, Cond.instanceMethod yX5_mixInto, Cond.selects RX5 yX5_mixInto yX5_mixInto, Cond.code yX5_mixInto cX5_mixInto 7 (some .long), Cond.methodLink RX5 56 yX4_mixInto, Cond.methodLink RX5 60 yX5_patternSize, Cond.methodLink RX5 63 yX5_stopOf, Cond.methodLink RX6 188 yX3_mixInto, Cond.instanceMethod yX3_mixInto, Cond.selects RX3 yX3_mixInto yX3_mixInto, Cond.code yX3_mixInto cX3_mixInto 6 (some .long), Cond.methodLink RL 128 yX7_digest, Cond.instanceMethod yX7_digest, Cond.selects RX7 yX7_digest yX7_digest, Cond.code yX7_digest cX7_digest 3 (some .long), Cond.constantLong RX7 157 (17305), Cond.fieldLink RX7 150 "IslandGrammarModel" "hash" "J", Cond.methodLink RX7 154 yX7_mix, Cond.instanceMethod yX7_mix]
def wsL_law_r32 : List Cond := [Cond.selects RX7 yX7_mix yX7_mix, Cond.code yX7_mix cX7_mix 2 none, Cond.constantLong RX7 148 (31), Cond.methodLink RX7 159 yX7_mixRules, Cond.instanceMethod yX7_mixRules, Cond.selects RX7 yX7_mixRules yX7_mixRules, Cond.code yX7_mixRules cX7_mixRules 3 none]
def wsL_law : List Cond := (wsL_law_r1 ++ (wsL_law_r2 ++ (wsL_law_r3 ++ (wsL_law_r4 ++ (wsL_law_r5 ++ (wsL_law_r6 ++ (wsL_law_r7 ++ (wsL_law_r8 ++ (wsL_law_r9 ++ (wsL_law_r10 ++ (wsL_law_r11 ++ (wsL_law_r12 ++ (wsL_law_r13 ++ (wsL_law_r14 ++ (wsL_law_r15 ++ (wsL_law_r16 ++ (wsL_law_r17 ++ (wsL_law_r18 ++ (wsL_law_r19 ++ (wsL_law_r20 ++ (wsL_law_r21 ++ (wsL_law_r22 ++ (wsL_law_r23 ++ (wsL_law_r24 ++ (wsL_law_r25 ++ (wsL_law_r26 ++ (wsL_law_r27 ++ (wsL_law_r28 ++ (wsL_law_r29 ++ (wsL_law_r30 ++ (wsL_law_r31 ++ wsL_law_r32))))))))))))))))))))))))))))))) ++ wsX60 ++ wsX70 ++ wsX50 ++ wsX10 ++ wsX40 ++ wsX20 ++ wsX30 ++ wsX00 ++ ([] : List Cond)
theorem inlX0 : ∀ w ∈ wsX00, w ∈ wsL_law := fun _ h => List.mem_append_left _ (List.mem_append_right _ h)
theorem inlX1 : ∀ w ∈ wsX10, w ∈ wsL_law := fun _ h => List.mem_append_left _ (List.mem_append_left _ (List.mem_append_left _ (List.mem_append_left _ (List.mem_append_left _ (List.mem_append_right _ h)))))
theorem inlX2 : ∀ w ∈ wsX20, w ∈ wsL_law := fun _ h => List.mem_append_left _ (List.mem_append_left _ (List.mem_append_left _ (List.mem_append_right _ h)))
theorem inlX3 : ∀ w ∈ wsX30, w ∈ wsL_law := fun _ h => List.mem_append_left _ (List.mem_append_left _ (List.mem_append_right _ h))
theorem inlX4 : ∀ w ∈ wsX40, w ∈ wsL_law := fun _ h => List.mem_append_left _ (List.mem_append_left _ (List.mem_append_left _ (List.mem_append_left _ (List.mem_append_right _ h))))
theorem inlX5 : ∀ w ∈ wsX50, w ∈ wsL_law := fun _ h => List.mem_append_left _ (List.mem_append_left _ (List.mem_append_left _ (List.mem_append_left _ (List.mem_append_left _ (List.mem_append_left _ (List.mem_append_right _ h))))))
theorem inlX6 : ∀ w ∈ wsX60, w ∈ wsL_law := fun _ h => List.mem_append_left _ (List.mem_append_left _ (List.mem_append_left _ (List.mem_append_left _ (List.mem_append_left _ (List.mem_append_left _ (List.mem_append_left _ (List.mem_append_left _ (List.mem_append_right _ h))))))))
theorem inlX7 : ∀ w ∈ wsX70, w ∈ wsL_law := fun _ h => List.mem_append_left _ (List.mem_append_left _ (List.mem_append_left _ (List.mem_append_left _ (List.mem_append_left _ (List.mem_append_left _ (List.mem_append_left _ (List.mem_append_right _ h)))))))
abbrev vwCl : List vw_C := [(RX0, TX0, 1), (RX1, TX1, 3), (RX2, TX2, 5), (RX3, TX3, 16), (RX4, TX4, 1), (RX5, TX5, 5), (RX6, TX6, 8), (RX7, TX7, 17)]
end
section
set_option maxRecDepth 100000 in
theorem gWAll : wsL_law.all goodWord = true := by decide +kernel
set_option maxRecDepth 100000 in
theorem wm_0 : Cond.classLink RL 7 RX6 ∈ wsL_law := List.mem_of_getElem? (i := 0) (by decide +kernel)
set_option maxRecDepth 100000 in
theorem wm_1 : Cond.instantiable RX6 8 ∈ wsL_law := List.mem_of_getElem? (i := 1) (by decide +kernel)
set_option maxRecDepth 100000 in
theorem wm_2 : Cond.initialized RX6 ∈ wsL_law := List.mem_of_getElem? (i := 2) (by decide +kernel)
set_option maxRecDepth 100000 in
theorem wm_3 : Cond.classLink RL 10 RX7 ∈ wsL_law := List.mem_of_getElem? (i := 3) (by decide +kernel)
set_option maxRecDepth 100000 in
theorem wm_4 : Cond.instantiable RX7 17 ∈ wsL_law := List.mem_of_getElem? (i := 4) (by decide +kernel)
set_option maxRecDepth 100000 in
theorem wm_5 : Cond.initialized RX7 ∈ wsL_law := List.mem_of_getElem? (i := 5) (by decide +kernel)
set_option maxRecDepth 100000 in
theorem wm_6 : Cond.methodLink RL 9 yX6_init ∈ wsL_law := List.mem_of_getElem? (i := 6) (by decide +kernel)
set_option maxRecDepth 100000 in
theorem wm_7 : Cond.instanceMethod yX6_init ∈ wsL_law := List.mem_of_getElem? (i := 7) (by decide +kernel)
set_option maxRecDepth 100000 in
theorem wm_8 : Cond.code yX6_init cX6_init 1 none ∈ wsL_law := List.mem_of_getElem? (i := 8) (by decide +kernel)
set_option maxRecDepth 100000 in
theorem wm_9 : Cond.methodLink RX6 3 objectInit ∈ wsL_law := List.mem_of_getElem? (i := 9) (by decide +kernel)
set_option maxRecDepth 100000 in
theorem wm_10 : Cond.instanceMethod objectInit ∈ wsL_law := List.mem_of_getElem? (i := 10) (by decide +kernel)
set_option maxRecDepth 100000 in
theorem wm_11 : Cond.code objectInit ⟨#[0xb1]⟩ 1 none ∈ wsL_law := List.mem_of_getElem? (i := 11) (by decide +kernel)
set_option maxRecDepth 100000 in
theorem wm_12 : Cond.classLink RX6 9 RX5 ∈ wsL_law := List.mem_of_getElem? (i := 12) (by decide +kernel)
set_option maxRecDepth 100000 in
theorem wm_13 : Cond.instantiable RX5 5 ∈ wsL_law := List.mem_of_getElem? (i := 13) (by decide +kernel)
set_option maxRecDepth 100000 in
theorem wm_14 : Cond.initialized RX5 ∈ wsL_law := List.mem_of_getElem? (i := 14) (by decide +kernel)
set_option maxRecDepth 100000 in
theorem wm_15 : Cond.fieldLink RX6 12 "IslandGrammar" "state" "LIslandGrammar$State;" ∈ wsL_law := List.mem_of_getElem? (i := 15) (by decide +kernel)
set_option maxRecDepth 100000 in
theorem wm_16 : Cond.classLink RX6 16 RX1 ∈ wsL_law := List.mem_of_getElem? (i := 16) (by decide +kernel)
set_option maxRecDepth 100000 in
theorem wm_17 : Cond.instantiable RX1 3 ∈ wsL_law := List.mem_of_getElem? (i := 17) (by decide +kernel)
set_option maxRecDepth 100000 in
theorem wm_18 : Cond.initialized RX1 ∈ wsL_law := List.mem_of_getElem? (i := 18) (by decide +kernel)
set_option maxRecDepth 100000 in
theorem wm_19 : Cond.fieldLink RX6 19 "IslandGrammar" "history" "LIslandGrammar$History;" ∈ wsL_law := List.mem_of_getElem? (i := 19) (by decide +kernel)
set_option maxRecDepth 100000 in
theorem wm_20 : Cond.classLink RX6 23 RX4 ∈ wsL_law := List.mem_of_getElem? (i := 20) (by decide +kernel)
set_option maxRecDepth 100000 in
theorem wm_21 : Cond.instantiable RX4 1 ∈ wsL_law := List.mem_of_getElem? (i := 21) (by decide +kernel)
set_option maxRecDepth 100000 in
theorem wm_22 : Cond.initialized RX4 ∈ wsL_law := List.mem_of_getElem? (i := 22) (by decide +kernel)
set_option maxRecDepth 100000 in
theorem wm_23 : Cond.fieldLink RX6 28 "IslandGrammar" "buffer" "LIslandGrammar$Row;" ∈ wsL_law := List.mem_of_getElem? (i := 23) (by decide +kernel)
set_option maxRecDepth 100000 in
theorem wm_24 : Cond.fieldLink RX6 32 "IslandGrammar" "errors" "LIslandGrammar$Row;" ∈ wsL_law := List.mem_of_getElem? (i := 24) (by decide +kernel)
set_option maxRecDepth 100000 in
theorem wm_25 : Cond.classLink RX6 35 RX2 ∈ wsL_law := List.mem_of_getElem? (i := 25) (by decide +kernel)
set_option maxRecDepth 100000 in
theorem wm_26 : Cond.instantiable RX2 5 ∈ wsL_law := List.mem_of_getElem? (i := 26) (by decide +kernel)
set_option maxRecDepth 100000 in
theorem wm_27 : Cond.initialized RX2 ∈ wsL_law := List.mem_of_getElem? (i := 27) (by decide +kernel)
set_option maxRecDepth 100000 in
theorem wm_28 : Cond.fieldLink RX6 40 "IslandGrammar" "matcher" "LIslandGrammar$Matcher;" ∈ wsL_law := List.mem_of_getElem? (i := 28) (by decide +kernel)
set_option maxRecDepth 100000 in
theorem wm_29 : Cond.classLink RX6 44 RX3 ∈ wsL_law := List.mem_of_getElem? (i := 29) (by decide +kernel)
set_option maxRecDepth 100000 in
theorem wm_30 : Cond.instantiable RX3 16 ∈ wsL_law := List.mem_of_getElem? (i := 30) (by decide +kernel)
set_option maxRecDepth 100000 in
theorem wm_31 : Cond.initialized RX3 ∈ wsL_law := List.mem_of_getElem? (i := 31) (by decide +kernel)
set_option maxRecDepth 100000 in
theorem wm_32 : Cond.fieldLink RX6 49 "IslandGrammar" "nodes" "LIslandGrammar$Nodes;" ∈ wsL_law := List.mem_of_getElem? (i := 32) (by decide +kernel)
set_option maxRecDepth 100000 in
theorem wm_33 : Cond.fieldLink RX6 53 "IslandGrammar" "bufferSize" "I" ∈ wsL_law := List.mem_of_getElem? (i := 33) (by decide +kernel)
set_option maxRecDepth 100000 in
theorem wm_34 : Cond.fieldLink RX6 57 "IslandGrammar" "stale" "Z" ∈ wsL_law := List.mem_of_getElem? (i := 34) (by decide +kernel)
set_option maxRecDepth 100000 in
theorem wm_35 : Cond.methodLink RX6 11 yX5_init ∈ wsL_law := List.mem_of_getElem? (i := 35) (by decide +kernel)
set_option maxRecDepth 100000 in
theorem wm_36 : Cond.instanceMethod yX5_init ∈ wsL_law := List.mem_of_getElem? (i := 36) (by decide +kernel)
set_option maxRecDepth 100000 in
theorem wm_37 : Cond.code yX5_init cX5_init 1 none ∈ wsL_law := List.mem_of_getElem? (i := 37) (by decide +kernel)
set_option maxRecDepth 100000 in
theorem wm_38 : Cond.methodLink RX5 3 objectInit ∈ wsL_law := List.mem_of_getElem? (i := 38) (by decide +kernel)
set_option maxRecDepth 100000 in
theorem wm_39 : Cond.classLink RX5 9 RX4 ∈ wsL_law := List.mem_of_getElem? (i := 39) (by decide +kernel)
set_option maxRecDepth 100000 in
theorem wm_40 : Cond.fieldLink RX5 14 "IslandGrammar$State" "text" "LIslandGrammar$Row;" ∈ wsL_law := List.mem_of_getElem? (i := 40) (by decide +kernel)
set_option maxRecDepth 100000 in
theorem wm_41 : Cond.fieldLink RX5 20 "IslandGrammar$State" "patternSizes" "LIslandGrammar$Row;" ∈ wsL_law := List.mem_of_getElem? (i := 41) (by decide +kernel)
set_option maxRecDepth 100000 in
theorem wm_42 : Cond.fieldLink RX5 23 "IslandGrammar$State" "patterns" "LIslandGrammar$Row;" ∈ wsL_law := List.mem_of_getElem? (i := 42) (by decide +kernel)
set_option maxRecDepth 100000 in
theorem wm_43 : Cond.fieldLink RX5 26 "IslandGrammar$State" "stops" "LIslandGrammar$Row;" ∈ wsL_law := List.mem_of_getElem? (i := 43) (by decide +kernel)
set_option maxRecDepth 100000 in
theorem wm_44 : Cond.fieldLink RX5 29 "IslandGrammar$State" "textSize" "I" ∈ wsL_law := List.mem_of_getElem? (i := 44) (by decide +kernel)
set_option maxRecDepth 100000 in
theorem wm_45 : Cond.methodLink RX5 11 yX4_init ∈ wsL_law := List.mem_of_getElem? (i := 45) (by decide +kernel)
set_option maxRecDepth 100000 in
theorem wm_46 : Cond.instanceMethod yX4_init ∈ wsL_law := List.mem_of_getElem? (i := 46) (by decide +kernel)
set_option maxRecDepth 100000 in
theorem wm_47 : Cond.code yX4_init cX4_init 2 none ∈ wsL_law := List.mem_of_getElem? (i := 47) (by decide +kernel)
set_option maxRecDepth 100000 in
theorem wm_48 : Cond.methodLink RX4 3 objectInit ∈ wsL_law := List.mem_of_getElem? (i := 48) (by decide +kernel)
set_option maxRecDepth 100000 in
theorem wm_49 : Cond.arrayClass .int ∈ wsL_law := List.mem_of_getElem? (i := 49) (by decide +kernel)
set_option maxRecDepth 100000 in
theorem wm_50 : Cond.fieldLink RX4 9 "IslandGrammar$Row" "cells" "[I" ∈ wsL_law := List.mem_of_getElem? (i := 50) (by decide +kernel)
set_option maxRecDepth 100000 in
theorem wm_51 : Cond.methodLink RX5 33 yX4_fill ∈ wsL_law := List.mem_of_getElem? (i := 51) (by decide +kernel)
set_option maxRecDepth 100000 in
theorem wm_52 : Cond.instanceMethod yX4_fill ∈ wsL_law := List.mem_of_getElem? (i := 52) (by decide +kernel)
set_option maxRecDepth 100000 in
theorem wm_53 : Cond.selects RX4 yX4_fill yX4_fill ∈ wsL_law := List.mem_of_getElem? (i := 53) (by decide +kernel)
set_option maxRecDepth 100000 in
theorem wm_54 : Cond.code yX4_fill cX4_fill 3 none ∈ wsL_law := List.mem_of_getElem? (i := 54) (by decide +kernel)
set_option maxRecDepth 100000 in
theorem wm_55 : Cond.instanceMethod yX1_init ∈ wsL_law := List.mem_of_getElem? (i := 55) (by decide +kernel)
set_option maxRecDepth 100000 in
theorem wm_56 : Cond.code yX1_init cX1_init 1 none ∈ wsL_law := List.mem_of_getElem? (i := 56) (by decide +kernel)
set_option maxRecDepth 100000 in
theorem wm_57 : Cond.methodLink RX1 3 objectInit ∈ wsL_law := List.mem_of_getElem? (i := 57) (by decide +kernel)
set_option maxRecDepth 100000 in
theorem wm_58 : Cond.classLink RX1 9 RX5 ∈ wsL_law := List.mem_of_getElem? (i := 58) (by decide +kernel)
set_option maxRecDepth 100000 in
theorem wm_59 : Cond.fieldLink RX1 12 "IslandGrammar$History" "ring" "[LIslandGrammar$State;" ∈ wsL_law := List.mem_of_getElem? (i := 59) (by decide +kernel)
set_option maxRecDepth 100000 in
theorem wm_60 : Cond.fieldLink RX1 18 "IslandGrammar$History" "next" "I" ∈ wsL_law := List.mem_of_getElem? (i := 60) (by decide +kernel)
set_option maxRecDepth 100000 in
theorem wm_61 : Cond.fieldLink RX1 22 "IslandGrammar$History" "count" "I" ∈ wsL_law := List.mem_of_getElem? (i := 61) (by decide +kernel)
set_option maxRecDepth 100000 in
theorem wm_62 : Cond.methodLink RX1 11 yX5_init ∈ wsL_law := List.mem_of_getElem? (i := 62) (by decide +kernel)
set_option maxRecDepth 100000 in
theorem wm_63 : Cond.methodLink RX6 25 yX4_init ∈ wsL_law := List.mem_of_getElem? (i := 63) (by decide +kernel)
set_option maxRecDepth 100000 in
theorem wm_64 : Cond.methodLink RX6 37 yX2_init ∈ wsL_law := List.mem_of_getElem? (i := 64) (by decide +kernel)
set_option maxRecDepth 100000 in
theorem wm_65 : Cond.instanceMethod yX2_init ∈ wsL_law := List.mem_of_getElem? (i := 65) (by decide +kernel)
set_option maxRecDepth 100000 in
theorem wm_66 : Cond.code yX2_init cX2_init 2 none ∈ wsL_law := List.mem_of_getElem? (i := 66) (by decide +kernel)
set_option maxRecDepth 100000 in
theorem wm_67 : Cond.methodLink RX2 3 objectInit ∈ wsL_law := List.mem_of_getElem? (i := 67) (by decide +kernel)
set_option maxRecDepth 100000 in
theorem wm_68 : Cond.classLink RX2 9 RX4 ∈ wsL_law := List.mem_of_getElem? (i := 68) (by decide +kernel)
set_option maxRecDepth 100000 in
theorem wm_69 : Cond.fieldLink RX2 14 "IslandGrammar$Matcher" "digitEnds" "LIslandGrammar$Row;" ∈ wsL_law := List.mem_of_getElem? (i := 69) (by decide +kernel)
set_option maxRecDepth 100000 in
theorem wm_70 : Cond.fieldLink RX2 20 "IslandGrammar$Matcher" "letterEnds" "LIslandGrammar$Row;" ∈ wsL_law := List.mem_of_getElem? (i := 70) (by decide +kernel)
set_option maxRecDepth 100000 in
theorem wm_71 : Cond.fieldLink RX2 23 "IslandGrammar$Matcher" "firstRules" "LIslandGrammar$Row;" ∈ wsL_law := List.mem_of_getElem? (i := 71) (by decide +kernel)
set_option maxRecDepth 100000 in
theorem wm_72 : Cond.classLink RX2 26 RX0 ∈ wsL_law := List.mem_of_getElem? (i := 72) (by decide +kernel)
set_option maxRecDepth 100000 in
theorem wm_73 : Cond.instantiable RX0 1 ∈ wsL_law := List.mem_of_getElem? (i := 73) (by decide +kernel)
set_option maxRecDepth 100000 in
theorem wm_74 : Cond.initialized RX0 ∈ wsL_law := List.mem_of_getElem? (i := 74) (by decide +kernel)
set_option maxRecDepth 100000 in
theorem wm_75 : Cond.fieldLink RX2 29 "IslandGrammar$Matcher" "restEnds" "LIslandGrammar$EndTable;" ∈ wsL_law := List.mem_of_getElem? (i := 75) (by decide +kernel)
set_option maxRecDepth 100000 in
theorem wm_76 : Cond.fieldLink RX2 33 "IslandGrammar$Matcher" "state" "LIslandGrammar$State;" ∈ wsL_law := List.mem_of_getElem? (i := 76) (by decide +kernel)
set_option maxRecDepth 100000 in
theorem wm_77 : Cond.methodLink RX2 11 yX4_init ∈ wsL_law := List.mem_of_getElem? (i := 77) (by decide +kernel)
set_option maxRecDepth 100000 in
theorem wm_78 : Cond.instanceMethod yX0_init ∈ wsL_law := List.mem_of_getElem? (i := 78) (by decide +kernel)
set_option maxRecDepth 100000 in
theorem wm_79 : Cond.code yX0_init cX0_init 1 none ∈ wsL_law := List.mem_of_getElem? (i := 79) (by decide +kernel)
set_option maxRecDepth 100000 in
theorem wm_80 : Cond.methodLink RX0 3 objectInit ∈ wsL_law := List.mem_of_getElem? (i := 80) (by decide +kernel)
set_option maxRecDepth 100000 in
theorem wm_81 : Cond.fieldLink RX0 11 "IslandGrammar$EndTable" "cells" "[I" ∈ wsL_law := List.mem_of_getElem? (i := 81) (by decide +kernel)
set_option maxRecDepth 100000 in
theorem wm_82 : Cond.methodLink RX6 46 yX3_init ∈ wsL_law := List.mem_of_getElem? (i := 82) (by decide +kernel)
set_option maxRecDepth 100000 in
theorem wm_83 : Cond.instanceMethod yX3_init ∈ wsL_law := List.mem_of_getElem? (i := 83) (by decide +kernel)
set_option maxRecDepth 100000 in
theorem wm_84 : Cond.code yX3_init cX3_init 3 none ∈ wsL_law := List.mem_of_getElem? (i := 84) (by decide +kernel)
set_option maxRecDepth 100000 in
theorem wm_85 : Cond.methodLink RX3 3 objectInit ∈ wsL_law := List.mem_of_getElem? (i := 85) (by decide +kernel)
set_option maxRecDepth 100000 in
theorem wm_86 : Cond.classLink RX3 9 RX4 ∈ wsL_law := List.mem_of_getElem? (i := 86) (by decide +kernel)
set_option maxRecDepth 100000 in
theorem wm_87 : Cond.fieldLink RX3 14 "IslandGrammar$Nodes" "rules" "LIslandGrammar$Row;" ∈ wsL_law := List.mem_of_getElem? (i := 87) (by decide +kernel)
set_option maxRecDepth 100000 in
theorem wm_88 : Cond.fieldLink RX3 20 "IslandGrammar$Nodes" "starts" "LIslandGrammar$Row;" ∈ wsL_law := List.mem_of_getElem? (i := 88) (by decide +kernel)
set_option maxRecDepth 100000 in
theorem wm_89 : Cond.fieldLink RX3 23 "IslandGrammar$Nodes" "ends" "LIslandGrammar$Row;" ∈ wsL_law := List.mem_of_getElem? (i := 89) (by decide +kernel)
set_option maxRecDepth 100000 in
theorem wm_90 : Cond.fieldLink RX3 26 "IslandGrammar$Nodes" "parents" "LIslandGrammar$Row;" ∈ wsL_law := List.mem_of_getElem? (i := 90) (by decide +kernel)
set_option maxRecDepth 100000 in
theorem wm_91 : Cond.fieldLink RX3 29 "IslandGrammar$Nodes" "depths" "LIslandGrammar$Row;" ∈ wsL_law := List.mem_of_getElem? (i := 91) (by decide +kernel)
set_option maxRecDepth 100000 in
theorem wm_92 : Cond.fieldLink RX3 32 "IslandGrammar$Nodes" "waters" "LIslandGrammar$Row;" ∈ wsL_law := List.mem_of_getElem? (i := 92) (by decide +kernel)
set_option maxRecDepth 100000 in
theorem wm_93 : Cond.fieldLink RX3 35 "IslandGrammar$Nodes" "numbers" "LIslandGrammar$Row;" ∈ wsL_law := List.mem_of_getElem? (i := 93) (by decide +kernel)
set_option maxRecDepth 100000 in
theorem wm_94 : Cond.fieldLink RX3 38 "IslandGrammar$Nodes" "dueRules" "LIslandGrammar$Row;" ∈ wsL_law := List.mem_of_getElem? (i := 94) (by decide +kernel)
set_option maxRecDepth 100000 in
theorem wm_95 : Cond.fieldLink RX3 41 "IslandGrammar$Nodes" "dueParents" "LIslandGrammar$Row;" ∈ wsL_law := List.mem_of_getElem? (i := 95) (by decide +kernel)
set_option maxRecDepth 100000 in
theorem wm_96 : Cond.fieldLink RX3 44 "IslandGrammar$Nodes" "count" "I" ∈ wsL_law := List.mem_of_getElem? (i := 96) (by decide +kernel)
set_option maxRecDepth 100000 in
theorem wm_97 : Cond.fieldLink RX3 48 "IslandGrammar$Nodes" "topIslands" "I" ∈ wsL_law := List.mem_of_getElem? (i := 97) (by decide +kernel)
set_option maxRecDepth 100000 in
theorem wm_98 : Cond.fieldLink RX3 51 "IslandGrammar$Nodes" "topWater" "I" ∈ wsL_law := List.mem_of_getElem? (i := 98) (by decide +kernel)
set_option maxRecDepth 100000 in
theorem wm_99 : Cond.fieldLink RX3 54 "IslandGrammar$Nodes" "waterRun" "I" ∈ wsL_law := List.mem_of_getElem? (i := 99) (by decide +kernel)
set_option maxRecDepth 100000 in
theorem wm_100 : Cond.fieldLink RX3 57 "IslandGrammar$Nodes" "longestRun" "I" ∈ wsL_law := List.mem_of_getElem? (i := 100) (by decide +kernel)
set_option maxRecDepth 100000 in
theorem wm_101 : Cond.fieldLink RX3 60 "IslandGrammar$Nodes" "state" "LIslandGrammar$State;" ∈ wsL_law := List.mem_of_getElem? (i := 101) (by decide +kernel)
set_option maxRecDepth 100000 in
theorem wm_102 : Cond.fieldLink RX3 64 "IslandGrammar$Nodes" "matcher" "LIslandGrammar$Matcher;" ∈ wsL_law := List.mem_of_getElem? (i := 102) (by decide +kernel)
set_option maxRecDepth 100000 in
theorem wm_103 : Cond.methodLink RX3 11 yX4_init ∈ wsL_law := List.mem_of_getElem? (i := 103) (by decide +kernel)
set_option maxRecDepth 100000 in
theorem wm_104 : Cond.methodLink RL 12 yX7_init ∈ wsL_law := List.mem_of_getElem? (i := 104) (by decide +kernel)
set_option maxRecDepth 100000 in
theorem wm_105 : Cond.instanceMethod yX7_init ∈ wsL_law := List.mem_of_getElem? (i := 105) (by decide +kernel)
set_option maxRecDepth 100000 in
theorem wm_106 : Cond.code yX7_init cX7_init 2 none ∈ wsL_law := List.mem_of_getElem? (i := 106) (by decide +kernel)
set_option maxRecDepth 100000 in
theorem wm_107 : Cond.methodLink RX7 1 objectInit ∈ wsL_law := List.mem_of_getElem? (i := 107) (by decide +kernel)
set_option maxRecDepth 100000 in
theorem wm_108 : Cond.fieldLink RX7 7 "IslandGrammarModel" "now" "[I" ∈ wsL_law := List.mem_of_getElem? (i := 108) (by decide +kernel)
set_option maxRecDepth 100000 in
theorem wm_109 : Cond.fieldLink RX7 13 "IslandGrammarModel" "history" "[I" ∈ wsL_law := List.mem_of_getElem? (i := 109) (by decide +kernel)
set_option maxRecDepth 100000 in
theorem wm_110 : Cond.fieldLink RX7 16 "IslandGrammarModel" "pattern" "[I" ∈ wsL_law := List.mem_of_getElem? (i := 110) (by decide +kernel)
set_option maxRecDepth 100000 in
theorem wm_111 : Cond.fieldLink RX7 19 "IslandGrammarModel" "errors" "[I" ∈ wsL_law := List.mem_of_getElem? (i := 111) (by decide +kernel)
set_option maxRecDepth 100000 in
theorem wm_112 : Cond.fieldLink RX7 22 "IslandGrammarModel" "ends" "[I" ∈ wsL_law := List.mem_of_getElem? (i := 112) (by decide +kernel)
set_option maxRecDepth 100000 in
theorem wm_113 : Cond.fieldLink RX7 25 "IslandGrammarModel" "foundRule" "[I" ∈ wsL_law := List.mem_of_getElem? (i := 113) (by decide +kernel)
set_option maxRecDepth 100000 in
theorem wm_114 : Cond.fieldLink RX7 28 "IslandGrammarModel" "foundStart" "[I" ∈ wsL_law := List.mem_of_getElem? (i := 114) (by decide +kernel)
set_option maxRecDepth 100000 in
theorem wm_115 : Cond.fieldLink RX7 31 "IslandGrammarModel" "foundParent" "[I" ∈ wsL_law := List.mem_of_getElem? (i := 115) (by decide +kernel)
set_option maxRecDepth 100000 in
theorem wm_116 : Cond.fieldLink RX7 34 "IslandGrammarModel" "foundWater" "[I" ∈ wsL_law := List.mem_of_getElem? (i := 116) (by decide +kernel)
set_option maxRecDepth 100000 in
theorem wm_117 : Cond.fieldLink RX7 37 "IslandGrammarModel" "foundNumber" "[I" ∈ wsL_law := List.mem_of_getElem? (i := 117) (by decide +kernel)
set_option maxRecDepth 100000 in
theorem wm_118 : Cond.methodLink RL 13 yX6_insert ∈ wsL_law := List.mem_of_getElem? (i := 118) (by decide +kernel)
set_option maxRecDepth 100000 in
theorem wm_119 : Cond.instanceMethod yX6_insert ∈ wsL_law := List.mem_of_getElem? (i := 119) (by decide +kernel)
set_option maxRecDepth 100000 in
theorem wm_120 : Cond.selects RX6 yX6_insert yX6_insert ∈ wsL_law := List.mem_of_getElem? (i := 120) (by decide +kernel)
set_option maxRecDepth 100000 in
theorem wm_121 : Cond.code yX6_insert cX6_insert 3 (some .int) ∈ wsL_law := List.mem_of_getElem? (i := 121) (by decide +kernel)
set_option maxRecDepth 100000 in
theorem wm_122 : Cond.methodLink RX6 61 yX5_textSize ∈ wsL_law := List.mem_of_getElem? (i := 122) (by decide +kernel)
set_option maxRecDepth 100000 in
theorem wm_123 : Cond.instanceMethod yX5_textSize ∈ wsL_law := List.mem_of_getElem? (i := 123) (by decide +kernel)
set_option maxRecDepth 100000 in
theorem wm_124 : Cond.selects RX5 yX5_textSize yX5_textSize ∈ wsL_law := List.mem_of_getElem? (i := 124) (by decide +kernel)
set_option maxRecDepth 100000 in
theorem wm_125 : Cond.code yX5_textSize cX5_textSize 1 (some .int) ∈ wsL_law := List.mem_of_getElem? (i := 125) (by decide +kernel)
set_option maxRecDepth 100000 in
theorem wm_126 : Cond.methodLink RX6 65 yX6_isByte ∈ wsL_law := List.mem_of_getElem? (i := 126) (by decide +kernel)
set_option maxRecDepth 100000 in
theorem wm_127 : Cond.static yX6_isByte ∈ wsL_law := List.mem_of_getElem? (i := 127) (by decide +kernel)
set_option maxRecDepth 100000 in
theorem wm_128 : Cond.code yX6_isByte cX6_isByte 1 (some .boolean) ∈ wsL_law := List.mem_of_getElem? (i := 128) (by decide +kernel)
set_option maxRecDepth 100000 in
theorem wm_129 : Cond.methodLink RX6 69 yX6_fail ∈ wsL_law := List.mem_of_getElem? (i := 129) (by decide +kernel)
set_option maxRecDepth 100000 in
theorem wm_130 : Cond.instanceMethod yX6_fail ∈ wsL_law := List.mem_of_getElem? (i := 130) (by decide +kernel)
set_option maxRecDepth 100000 in
theorem wm_131 : Cond.selects RX6 yX6_fail yX6_fail ∈ wsL_law := List.mem_of_getElem? (i := 131) (by decide +kernel)
set_option maxRecDepth 100000 in
theorem wm_132 : Cond.code yX6_fail cX6_fail 3 (some .int) ∈ wsL_law := List.mem_of_getElem? (i := 132) (by decide +kernel)
set_option maxRecDepth 100000 in
theorem wm_133 : Cond.methodLink RX6 98 yX4_get ∈ wsL_law := List.mem_of_getElem? (i := 133) (by decide +kernel)
set_option maxRecDepth 100000 in
theorem wm_134 : Cond.instanceMethod yX4_get ∈ wsL_law := List.mem_of_getElem? (i := 134) (by decide +kernel)
set_option maxRecDepth 100000 in
theorem wm_135 : Cond.selects RX4 yX4_get yX4_get ∈ wsL_law := List.mem_of_getElem? (i := 135) (by decide +kernel)
set_option maxRecDepth 100000 in
theorem wm_136 : Cond.code yX4_get cX4_get 2 (some .int) ∈ wsL_law := List.mem_of_getElem? (i := 136) (by decide +kernel)
set_option maxRecDepth 100000 in
theorem wm_137 : Cond.methodLink RX6 92 yX4_set ∈ wsL_law := List.mem_of_getElem? (i := 137) (by decide +kernel)
set_option maxRecDepth 100000 in
theorem wm_138 : Cond.instanceMethod yX4_set ∈ wsL_law := List.mem_of_getElem? (i := 138) (by decide +kernel)
set_option maxRecDepth 100000 in
theorem wm_139 : Cond.selects RX4 yX4_set yX4_set ∈ wsL_law := List.mem_of_getElem? (i := 139) (by decide +kernel)
set_option maxRecDepth 100000 in
theorem wm_140 : Cond.code yX4_set cX4_set 3 none ∈ wsL_law := List.mem_of_getElem? (i := 140) (by decide +kernel)
set_option maxRecDepth 100000 in
theorem wm_141 : Cond.methodLink RX6 73 yX6_prepareChange ∈ wsL_law := List.mem_of_getElem? (i := 141) (by decide +kernel)
set_option maxRecDepth 100000 in
theorem wm_142 : Cond.instanceMethod yX6_prepareChange ∈ wsL_law := List.mem_of_getElem? (i := 142) (by decide +kernel)
set_option maxRecDepth 100000 in
theorem wm_143 : Cond.selects RX6 yX6_prepareChange yX6_prepareChange ∈ wsL_law := List.mem_of_getElem? (i := 143) (by decide +kernel)
set_option maxRecDepth 100000 in
theorem wm_144 : Cond.code yX6_prepareChange cX6_prepareChange 1 none ∈ wsL_law := List.mem_of_getElem? (i := 144) (by decide +kernel)
set_option maxRecDepth 100000 in
theorem wm_145 : Cond.methodLink RX6 194 yX1_save ∈ wsL_law := List.mem_of_getElem? (i := 145) (by decide +kernel)
set_option maxRecDepth 100000 in
theorem wm_146 : Cond.instanceMethod yX1_save ∈ wsL_law := List.mem_of_getElem? (i := 146) (by decide +kernel)
set_option maxRecDepth 100000 in
theorem wm_147 : Cond.selects RX1 yX1_save yX1_save ∈ wsL_law := List.mem_of_getElem? (i := 147) (by decide +kernel)
set_option maxRecDepth 100000 in
theorem wm_148 : Cond.code yX1_save cX1_save 2 none ∈ wsL_law := List.mem_of_getElem? (i := 148) (by decide +kernel)
set_option maxRecDepth 100000 in
theorem wm_149 : Cond.methodLink RX1 33 Lib.Math.min.name ∈ wsL_law := List.mem_of_getElem? (i := 149) (by decide +kernel)
set_option maxRecDepth 100000 in
theorem wm_150 : Cond.static Lib.Math.min.name ∈ wsL_law := List.mem_of_getElem? (i := 150) (by decide +kernel)
set_option maxRecDepth 100000 in
theorem wm_151 : Cond.initialized "java/lang/Math" ∈ wsL_law := List.mem_of_getElem? (i := 151) (by decide +kernel)
set_option maxRecDepth 100000 in
theorem wm_152 : Cond.code Lib.Math.min.name Lib.Math.min.code 2 (some .int) ∈ wsL_law := List.mem_of_getElem? (i := 152) (by decide +kernel)
set_option maxRecDepth 100000 in
theorem wm_153 : Cond.methodLink RX1 25 yX1_slotAt ∈ wsL_law := List.mem_of_getElem? (i := 153) (by decide +kernel)
set_option maxRecDepth 100000 in
theorem wm_154 : Cond.instanceMethod yX1_slotAt ∈ wsL_law := List.mem_of_getElem? (i := 154) (by decide +kernel)
set_option maxRecDepth 100000 in
theorem wm_155 : Cond.selects RX1 yX1_slotAt yX1_slotAt ∈ wsL_law := List.mem_of_getElem? (i := 155) (by decide +kernel)
set_option maxRecDepth 100000 in
theorem wm_156 : Cond.code yX1_slotAt cX1_slotAt 2 (some (.object "IslandGrammar$State")) ∈ wsL_law := List.mem_of_getElem? (i := 156) (by decide +kernel)
set_option maxRecDepth 100000 in
theorem wm_157 : Cond.methodLink RX1 29 yX5_copyFrom ∈ wsL_law := List.mem_of_getElem? (i := 157) (by decide +kernel)
set_option maxRecDepth 100000 in
theorem wm_158 : Cond.instanceMethod yX5_copyFrom ∈ wsL_law := List.mem_of_getElem? (i := 158) (by decide +kernel)
set_option maxRecDepth 100000 in
theorem wm_159 : Cond.selects RX5 yX5_copyFrom yX5_copyFrom ∈ wsL_law := List.mem_of_getElem? (i := 159) (by decide +kernel)
set_option maxRecDepth 100000 in
theorem wm_160 : Cond.code yX5_copyFrom cX5_copyFrom 2 none ∈ wsL_law := List.mem_of_getElem? (i := 160) (by decide +kernel)
set_option maxRecDepth 100000 in
theorem wm_161 : Cond.methodLink RX5 48 yX4_copyFrom ∈ wsL_law := List.mem_of_getElem? (i := 161) (by decide +kernel)
set_option maxRecDepth 100000 in
theorem wm_162 : Cond.instanceMethod yX4_copyFrom ∈ wsL_law := List.mem_of_getElem? (i := 162) (by decide +kernel)
set_option maxRecDepth 100000 in
theorem wm_163 : Cond.selects RX4 yX4_copyFrom yX4_copyFrom ∈ wsL_law := List.mem_of_getElem? (i := 163) (by decide +kernel)
set_option maxRecDepth 100000 in
theorem wm_164 : Cond.code yX4_copyFrom cX4_copyFrom 4 none ∈ wsL_law := List.mem_of_getElem? (i := 164) (by decide +kernel)
set_option maxRecDepth 100000 in
theorem wm_165 : Cond.methodLink RX4 15 Lib.Math.min.name ∈ wsL_law := List.mem_of_getElem? (i := 165) (by decide +kernel)
set_option maxRecDepth 100000 in
theorem wm_166 : Cond.methodLink RX6 76 yX5_insertByte ∈ wsL_law := List.mem_of_getElem? (i := 166) (by decide +kernel)
set_option maxRecDepth 100000 in
theorem wm_167 : Cond.instanceMethod yX5_insertByte ∈ wsL_law := List.mem_of_getElem? (i := 167) (by decide +kernel)
set_option maxRecDepth 100000 in
theorem wm_168 : Cond.selects RX5 yX5_insertByte yX5_insertByte ∈ wsL_law := List.mem_of_getElem? (i := 168) (by decide +kernel)
set_option maxRecDepth 100000 in
theorem wm_169 : Cond.code yX5_insertByte cX5_insertByte 4 none ∈ wsL_law := List.mem_of_getElem? (i := 169) (by decide +kernel)
set_option maxRecDepth 100000 in
theorem wm_170 : Cond.methodLink RX5 36 yX4_get ∈ wsL_law := List.mem_of_getElem? (i := 170) (by decide +kernel)
set_option maxRecDepth 100000 in
theorem wm_171 : Cond.methodLink RX5 40 yX4_set ∈ wsL_law := List.mem_of_getElem? (i := 171) (by decide +kernel)
set_option maxRecDepth 100000 in
theorem wm_172 : Cond.methodLink RL 17 yX7_insert ∈ wsL_law := List.mem_of_getElem? (i := 172) (by decide +kernel)
set_option maxRecDepth 100000 in
theorem wm_173 : Cond.instanceMethod yX7_insert ∈ wsL_law := List.mem_of_getElem? (i := 173) (by decide +kernel)
set_option maxRecDepth 100000 in
theorem wm_174 : Cond.selects RX7 yX7_insert yX7_insert ∈ wsL_law := List.mem_of_getElem? (i := 174) (by decide +kernel)
set_option maxRecDepth 100000 in
theorem wm_175 : Cond.code yX7_insert cX7_insert 4 (some .int) ∈ wsL_law := List.mem_of_getElem? (i := 175) (by decide +kernel)
set_option maxRecDepth 100000 in
theorem wm_176 : Cond.methodLink RX7 44 yX7_in ∈ wsL_law := List.mem_of_getElem? (i := 176) (by decide +kernel)
set_option maxRecDepth 100000 in
theorem wm_177 : Cond.static yX7_in ∈ wsL_law := List.mem_of_getElem? (i := 177) (by decide +kernel)
set_option maxRecDepth 100000 in
theorem wm_178 : Cond.code yX7_in cX7_in 3 (some .boolean) ∈ wsL_law := List.mem_of_getElem? (i := 178) (by decide +kernel)
set_option maxRecDepth 100000 in
theorem wm_179 : Cond.methodLink RX7 48 yX7_isByte ∈ wsL_law := List.mem_of_getElem? (i := 179) (by decide +kernel)
set_option maxRecDepth 100000 in
theorem wm_180 : Cond.static yX7_isByte ∈ wsL_law := List.mem_of_getElem? (i := 180) (by decide +kernel)
set_option maxRecDepth 100000 in
theorem wm_181 : Cond.code yX7_isByte cX7_isByte 1 (some .boolean) ∈ wsL_law := List.mem_of_getElem? (i := 181) (by decide +kernel)
set_option maxRecDepth 100000 in
theorem wm_182 : Cond.methodLink RX7 52 yX7_fail ∈ wsL_law := List.mem_of_getElem? (i := 182) (by decide +kernel)
set_option maxRecDepth 100000 in
theorem wm_183 : Cond.instanceMethod yX7_fail ∈ wsL_law := List.mem_of_getElem? (i := 183) (by decide +kernel)
set_option maxRecDepth 100000 in
theorem wm_184 : Cond.selects RX7 yX7_fail yX7_fail ∈ wsL_law := List.mem_of_getElem? (i := 184) (by decide +kernel)
set_option maxRecDepth 100000 in
theorem wm_185 : Cond.code yX7_fail cX7_fail 2 (some .int) ∈ wsL_law := List.mem_of_getElem? (i := 185) (by decide +kernel)
set_option maxRecDepth 100000 in
theorem wm_186 : Cond.methodLink RX7 56 yX7_save ∈ wsL_law := List.mem_of_getElem? (i := 186) (by decide +kernel)
set_option maxRecDepth 100000 in
theorem wm_187 : Cond.instanceMethod yX7_save ∈ wsL_law := List.mem_of_getElem? (i := 187) (by decide +kernel)
set_option maxRecDepth 100000 in
theorem wm_188 : Cond.selects RX7 yX7_save yX7_save ∈ wsL_law := List.mem_of_getElem? (i := 188) (by decide +kernel)
set_option maxRecDepth 100000 in
theorem wm_189 : Cond.code yX7_save cX7_save 2 none ∈ wsL_law := List.mem_of_getElem? (i := 189) (by decide +kernel)
set_option maxRecDepth 100000 in
theorem wm_190 : Cond.fieldLink RX7 40 "IslandGrammarModel" "depth" "I" ∈ wsL_law := List.mem_of_getElem? (i := 190) (by decide +kernel)
set_option maxRecDepth 100000 in
theorem wm_191 : Cond.methodLink RL 18 yX6_replace ∈ wsL_law := List.mem_of_getElem? (i := 191) (by decide +kernel)
set_option maxRecDepth 100000 in
theorem wm_192 : Cond.instanceMethod yX6_replace ∈ wsL_law := List.mem_of_getElem? (i := 192) (by decide +kernel)
set_option maxRecDepth 100000 in
theorem wm_193 : Cond.selects RX6 yX6_replace yX6_replace ∈ wsL_law := List.mem_of_getElem? (i := 193) (by decide +kernel)
set_option maxRecDepth 100000 in
theorem wm_194 : Cond.code yX6_replace cX6_replace 4 (some .int) ∈ wsL_law := List.mem_of_getElem? (i := 194) (by decide +kernel)
set_option maxRecDepth 100000 in
theorem wm_195 : Cond.methodLink RX6 80 yX6_isInText ∈ wsL_law := List.mem_of_getElem? (i := 195) (by decide +kernel)
set_option maxRecDepth 100000 in
theorem wm_196 : Cond.instanceMethod yX6_isInText ∈ wsL_law := List.mem_of_getElem? (i := 196) (by decide +kernel)
set_option maxRecDepth 100000 in
theorem wm_197 : Cond.selects RX6 yX6_isInText yX6_isInText ∈ wsL_law := List.mem_of_getElem? (i := 197) (by decide +kernel)
set_option maxRecDepth 100000 in
theorem wm_198 : Cond.code yX6_isInText cX6_isInText 2 (some .boolean) ∈ wsL_law := List.mem_of_getElem? (i := 198) (by decide +kernel)
set_option maxRecDepth 100000 in
theorem wm_199 : Cond.methodLink RX6 83 yX5_textAt ∈ wsL_law := List.mem_of_getElem? (i := 199) (by decide +kernel)
set_option maxRecDepth 100000 in
theorem wm_200 : Cond.instanceMethod yX5_textAt ∈ wsL_law := List.mem_of_getElem? (i := 200) (by decide +kernel)
set_option maxRecDepth 100000 in
theorem wm_201 : Cond.selects RX5 yX5_textAt yX5_textAt ∈ wsL_law := List.mem_of_getElem? (i := 201) (by decide +kernel)
set_option maxRecDepth 100000 in
theorem wm_202 : Cond.code yX5_textAt cX5_textAt 2 (some .int) ∈ wsL_law := List.mem_of_getElem? (i := 202) (by decide +kernel)
set_option maxRecDepth 100000 in
theorem wm_203 : Cond.methodLink RX6 86 yX5_setByte ∈ wsL_law := List.mem_of_getElem? (i := 203) (by decide +kernel)
set_option maxRecDepth 100000 in
theorem wm_204 : Cond.instanceMethod yX5_setByte ∈ wsL_law := List.mem_of_getElem? (i := 204) (by decide +kernel)
set_option maxRecDepth 100000 in
theorem wm_205 : Cond.selects RX5 yX5_setByte yX5_setByte ∈ wsL_law := List.mem_of_getElem? (i := 205) (by decide +kernel)
set_option maxRecDepth 100000 in
theorem wm_206 : Cond.code yX5_setByte cX5_setByte 3 none ∈ wsL_law := List.mem_of_getElem? (i := 206) (by decide +kernel)
set_option maxRecDepth 100000 in
theorem wm_207 : Cond.methodLink RL 21 yX7_replace ∈ wsL_law := List.mem_of_getElem? (i := 207) (by decide +kernel)
set_option maxRecDepth 100000 in
theorem wm_208 : Cond.instanceMethod yX7_replace ∈ wsL_law := List.mem_of_getElem? (i := 208) (by decide +kernel)
set_option maxRecDepth 100000 in
theorem wm_209 : Cond.selects RX7 yX7_replace yX7_replace ∈ wsL_law := List.mem_of_getElem? (i := 209) (by decide +kernel)
set_option maxRecDepth 100000 in
theorem wm_210 : Cond.code yX7_replace cX7_replace 4 (some .int) ∈ wsL_law := List.mem_of_getElem? (i := 210) (by decide +kernel)
set_option maxRecDepth 100000 in
theorem wm_211 : Cond.methodLink RX7 59 yX7_isPosition ∈ wsL_law := List.mem_of_getElem? (i := 211) (by decide +kernel)
set_option maxRecDepth 100000 in
theorem wm_212 : Cond.instanceMethod yX7_isPosition ∈ wsL_law := List.mem_of_getElem? (i := 212) (by decide +kernel)
set_option maxRecDepth 100000 in
theorem wm_213 : Cond.selects RX7 yX7_isPosition yX7_isPosition ∈ wsL_law := List.mem_of_getElem? (i := 213) (by decide +kernel)
set_option maxRecDepth 100000 in
theorem wm_214 : Cond.code yX7_isPosition cX7_isPosition 2 (some .boolean) ∈ wsL_law := List.mem_of_getElem? (i := 214) (by decide +kernel)
set_option maxRecDepth 100000 in
theorem wm_215 : Cond.methodLink RL 22 yX6_delete ∈ wsL_law := List.mem_of_getElem? (i := 215) (by decide +kernel)
set_option maxRecDepth 100000 in
theorem wm_216 : Cond.instanceMethod yX6_delete ∈ wsL_law := List.mem_of_getElem? (i := 216) (by decide +kernel)
set_option maxRecDepth 100000 in
theorem wm_217 : Cond.selects RX6 yX6_delete yX6_delete ∈ wsL_law := List.mem_of_getElem? (i := 217) (by decide +kernel)
set_option maxRecDepth 100000 in
theorem wm_218 : Cond.code yX6_delete cX6_delete 3 (some .int) ∈ wsL_law := List.mem_of_getElem? (i := 218) (by decide +kernel)
set_option maxRecDepth 100000 in
theorem wm_219 : Cond.methodLink RX6 89 yX5_removeBytes ∈ wsL_law := List.mem_of_getElem? (i := 219) (by decide +kernel)
set_option maxRecDepth 100000 in
theorem wm_220 : Cond.instanceMethod yX5_removeBytes ∈ wsL_law := List.mem_of_getElem? (i := 220) (by decide +kernel)
set_option maxRecDepth 100000 in
theorem wm_221 : Cond.selects RX5 yX5_removeBytes yX5_removeBytes ∈ wsL_law := List.mem_of_getElem? (i := 221) (by decide +kernel)
set_option maxRecDepth 100000 in
theorem wm_222 : Cond.code yX5_removeBytes cX5_removeBytes 4 none ∈ wsL_law := List.mem_of_getElem? (i := 222) (by decide +kernel)
set_option maxRecDepth 100000 in
theorem wm_223 : Cond.methodLink RL 25 yX7_delete ∈ wsL_law := List.mem_of_getElem? (i := 223) (by decide +kernel)
set_option maxRecDepth 100000 in
theorem wm_224 : Cond.instanceMethod yX7_delete ∈ wsL_law := List.mem_of_getElem? (i := 224) (by decide +kernel)
set_option maxRecDepth 100000 in
theorem wm_225 : Cond.selects RX7 yX7_delete yX7_delete ∈ wsL_law := List.mem_of_getElem? (i := 225) (by decide +kernel)
set_option maxRecDepth 100000 in
theorem wm_226 : Cond.code yX7_delete cX7_delete 4 (some .int) ∈ wsL_law := List.mem_of_getElem? (i := 226) (by decide +kernel)
set_option maxRecDepth 100000 in
theorem wm_227 : Cond.methodLink RL 26 yX6_length ∈ wsL_law := List.mem_of_getElem? (i := 227) (by decide +kernel)
set_option maxRecDepth 100000 in
theorem wm_228 : Cond.instanceMethod yX6_length ∈ wsL_law := List.mem_of_getElem? (i := 228) (by decide +kernel)
set_option maxRecDepth 100000 in
theorem wm_229 : Cond.selects RX6 yX6_length yX6_length ∈ wsL_law := List.mem_of_getElem? (i := 229) (by decide +kernel)
set_option maxRecDepth 100000 in
theorem wm_230 : Cond.code yX6_length cX6_length 1 (some .int) ∈ wsL_law := List.mem_of_getElem? (i := 230) (by decide +kernel)
set_option maxRecDepth 100000 in
theorem wm_231 : Cond.methodLink RL 30 yX7_length ∈ wsL_law := List.mem_of_getElem? (i := 231) (by decide +kernel)
set_option maxRecDepth 100000 in
theorem wm_232 : Cond.instanceMethod yX7_length ∈ wsL_law := List.mem_of_getElem? (i := 232) (by decide +kernel)
set_option maxRecDepth 100000 in
theorem wm_233 : Cond.selects RX7 yX7_length yX7_length ∈ wsL_law := List.mem_of_getElem? (i := 233) (by decide +kernel)
set_option maxRecDepth 100000 in
theorem wm_234 : Cond.code yX7_length cX7_length 1 (some .int) ∈ wsL_law := List.mem_of_getElem? (i := 234) (by decide +kernel)
set_option maxRecDepth 100000 in
theorem wm_235 : Cond.methodLink RL 31 yX6_byteAt ∈ wsL_law := List.mem_of_getElem? (i := 235) (by decide +kernel)
set_option maxRecDepth 100000 in
theorem wm_236 : Cond.instanceMethod yX6_byteAt ∈ wsL_law := List.mem_of_getElem? (i := 236) (by decide +kernel)
set_option maxRecDepth 100000 in
theorem wm_237 : Cond.selects RX6 yX6_byteAt yX6_byteAt ∈ wsL_law := List.mem_of_getElem? (i := 237) (by decide +kernel)
set_option maxRecDepth 100000 in
theorem wm_238 : Cond.code yX6_byteAt cX6_byteAt 2 (some .int) ∈ wsL_law := List.mem_of_getElem? (i := 238) (by decide +kernel)
set_option maxRecDepth 100000 in
theorem wm_239 : Cond.methodLink RL 35 yX7_byteAt ∈ wsL_law := List.mem_of_getElem? (i := 239) (by decide +kernel)
set_option maxRecDepth 100000 in
theorem wm_240 : Cond.instanceMethod yX7_byteAt ∈ wsL_law := List.mem_of_getElem? (i := 240) (by decide +kernel)
set_option maxRecDepth 100000 in
theorem wm_241 : Cond.selects RX7 yX7_byteAt yX7_byteAt ∈ wsL_law := List.mem_of_getElem? (i := 241) (by decide +kernel)
set_option maxRecDepth 100000 in
theorem wm_242 : Cond.code yX7_byteAt cX7_byteAt 2 (some .int) ∈ wsL_law := List.mem_of_getElem? (i := 242) (by decide +kernel)
set_option maxRecDepth 100000 in
theorem wm_243 : Cond.methodLink RL 36 yX6_append ∈ wsL_law := List.mem_of_getElem? (i := 243) (by decide +kernel)
set_option maxRecDepth 100000 in
theorem wm_244 : Cond.instanceMethod yX6_append ∈ wsL_law := List.mem_of_getElem? (i := 244) (by decide +kernel)
set_option maxRecDepth 100000 in
theorem wm_245 : Cond.selects RX6 yX6_append yX6_append ∈ wsL_law := List.mem_of_getElem? (i := 245) (by decide +kernel)
set_option maxRecDepth 100000 in
theorem wm_246 : Cond.code yX6_append cX6_append 2 (some .int) ∈ wsL_law := List.mem_of_getElem? (i := 246) (by decide +kernel)
set_option maxRecDepth 100000 in
theorem wm_247 : Cond.methodLink RL 39 yX7_append ∈ wsL_law := List.mem_of_getElem? (i := 247) (by decide +kernel)
set_option maxRecDepth 100000 in
theorem wm_248 : Cond.instanceMethod yX7_append ∈ wsL_law := List.mem_of_getElem? (i := 248) (by decide +kernel)
set_option maxRecDepth 100000 in
theorem wm_249 : Cond.selects RX7 yX7_append yX7_append ∈ wsL_law := List.mem_of_getElem? (i := 249) (by decide +kernel)
set_option maxRecDepth 100000 in
theorem wm_250 : Cond.code yX7_append cX7_append 2 (some .int) ∈ wsL_law := List.mem_of_getElem? (i := 250) (by decide +kernel)
set_option maxRecDepth 100000 in
theorem wm_251 : Cond.fieldLink RX7 62 "IslandGrammarModel" "patternLength" "I" ∈ wsL_law := List.mem_of_getElem? (i := 251) (by decide +kernel)
set_option maxRecDepth 100000 in
theorem wm_252 : Cond.methodLink RL 40 yX6_clearPattern ∈ wsL_law := List.mem_of_getElem? (i := 252) (by decide +kernel)
set_option maxRecDepth 100000 in
theorem wm_253 : Cond.instanceMethod yX6_clearPattern ∈ wsL_law := List.mem_of_getElem? (i := 253) (by decide +kernel)
set_option maxRecDepth 100000 in
theorem wm_254 : Cond.selects RX6 yX6_clearPattern yX6_clearPattern ∈ wsL_law := List.mem_of_getElem? (i := 254) (by decide +kernel)
set_option maxRecDepth 100000 in
theorem wm_255 : Cond.code yX6_clearPattern cX6_clearPattern 2 (some .int) ∈ wsL_law := List.mem_of_getElem? (i := 255) (by decide +kernel)
set_option maxRecDepth 100000 in
theorem wm_256 : Cond.methodLink RL 43 yX7_clearPattern ∈ wsL_law := List.mem_of_getElem? (i := 256) (by decide +kernel)
set_option maxRecDepth 100000 in
theorem wm_257 : Cond.instanceMethod yX7_clearPattern ∈ wsL_law := List.mem_of_getElem? (i := 257) (by decide +kernel)
set_option maxRecDepth 100000 in
theorem wm_258 : Cond.selects RX7 yX7_clearPattern yX7_clearPattern ∈ wsL_law := List.mem_of_getElem? (i := 258) (by decide +kernel)
set_option maxRecDepth 100000 in
theorem wm_259 : Cond.code yX7_clearPattern cX7_clearPattern 2 (some .int) ∈ wsL_law := List.mem_of_getElem? (i := 259) (by decide +kernel)
set_option maxRecDepth 100000 in
theorem wm_260 : Cond.methodLink RL 44 yX6_define ∈ wsL_law := List.mem_of_getElem? (i := 260) (by decide +kernel)
set_option maxRecDepth 100000 in
theorem wm_261 : Cond.instanceMethod yX6_define ∈ wsL_law := List.mem_of_getElem? (i := 261) (by decide +kernel)
set_option maxRecDepth 100000 in
theorem wm_262 : Cond.selects RX6 yX6_define yX6_define ∈ wsL_law := List.mem_of_getElem? (i := 262) (by decide +kernel)
set_option maxRecDepth 100000 in
theorem wm_263 : Cond.code yX6_define cX6_define 2 (some .int) ∈ wsL_law := List.mem_of_getElem? (i := 263) (by decide +kernel)
set_option maxRecDepth 100000 in
theorem wm_264 : Cond.methodLink RX6 95 yX6_isRule ∈ wsL_law := List.mem_of_getElem? (i := 264) (by decide +kernel)
set_option maxRecDepth 100000 in
theorem wm_265 : Cond.static yX6_isRule ∈ wsL_law := List.mem_of_getElem? (i := 265) (by decide +kernel)
set_option maxRecDepth 100000 in
theorem wm_266 : Cond.code yX6_isRule cX6_isRule 1 (some .boolean) ∈ wsL_law := List.mem_of_getElem? (i := 266) (by decide +kernel)
set_option maxRecDepth 100000 in
theorem wm_267 : Cond.methodLink RX6 101 yX6_canStartPattern ∈ wsL_law := List.mem_of_getElem? (i := 267) (by decide +kernel)
set_option maxRecDepth 100000 in
theorem wm_268 : Cond.static yX6_canStartPattern ∈ wsL_law := List.mem_of_getElem? (i := 268) (by decide +kernel)
set_option maxRecDepth 100000 in
theorem wm_269 : Cond.code yX6_canStartPattern cX6_canStartPattern 1 (some .boolean) ∈ wsL_law := List.mem_of_getElem? (i := 269) (by decide +kernel)
set_option maxRecDepth 100000 in
theorem wm_270 : Cond.methodLink RX6 189 yX6_isReference ∈ wsL_law := List.mem_of_getElem? (i := 270) (by decide +kernel)
set_option maxRecDepth 100000 in
theorem wm_271 : Cond.static yX6_isReference ∈ wsL_law := List.mem_of_getElem? (i := 271) (by decide +kernel)
set_option maxRecDepth 100000 in
theorem wm_272 : Cond.code yX6_isReference cX6_isReference 1 (some .boolean) ∈ wsL_law := List.mem_of_getElem? (i := 272) (by decide +kernel)
set_option maxRecDepth 100000 in
theorem wm_273 : Cond.methodLink RX6 104 yX5_setPattern ∈ wsL_law := List.mem_of_getElem? (i := 273) (by decide +kernel)
set_option maxRecDepth 100000 in
theorem wm_274 : Cond.instanceMethod yX5_setPattern ∈ wsL_law := List.mem_of_getElem? (i := 274) (by decide +kernel)
set_option maxRecDepth 100000 in
theorem wm_275 : Cond.selects RX5 yX5_setPattern yX5_setPattern ∈ wsL_law := List.mem_of_getElem? (i := 275) (by decide +kernel)
set_option maxRecDepth 100000 in
theorem wm_276 : Cond.code yX5_setPattern cX5_setPattern 5 none ∈ wsL_law := List.mem_of_getElem? (i := 276) (by decide +kernel)
set_option maxRecDepth 100000 in
theorem wm_277 : Cond.methodLink RL 47 yX7_define ∈ wsL_law := List.mem_of_getElem? (i := 277) (by decide +kernel)
set_option maxRecDepth 100000 in
theorem wm_278 : Cond.instanceMethod yX7_define ∈ wsL_law := List.mem_of_getElem? (i := 278) (by decide +kernel)
set_option maxRecDepth 100000 in
theorem wm_279 : Cond.selects RX7 yX7_define yX7_define ∈ wsL_law := List.mem_of_getElem? (i := 279) (by decide +kernel)
set_option maxRecDepth 100000 in
theorem wm_280 : Cond.code yX7_define cX7_define 3 (some .int) ∈ wsL_law := List.mem_of_getElem? (i := 280) (by decide +kernel)
set_option maxRecDepth 100000 in
theorem wm_281 : Cond.methodLink RX7 65 yX7_isRule ∈ wsL_law := List.mem_of_getElem? (i := 281) (by decide +kernel)
set_option maxRecDepth 100000 in
theorem wm_282 : Cond.static yX7_isRule ∈ wsL_law := List.mem_of_getElem? (i := 282) (by decide +kernel)
set_option maxRecDepth 100000 in
theorem wm_283 : Cond.code yX7_isRule cX7_isRule 1 (some .boolean) ∈ wsL_law := List.mem_of_getElem? (i := 283) (by decide +kernel)
set_option maxRecDepth 100000 in
theorem wm_284 : Cond.methodLink RX7 68 yX7_isReference ∈ wsL_law := List.mem_of_getElem? (i := 284) (by decide +kernel)
set_option maxRecDepth 100000 in
theorem wm_285 : Cond.static yX7_isReference ∈ wsL_law := List.mem_of_getElem? (i := 285) (by decide +kernel)
set_option maxRecDepth 100000 in
theorem wm_286 : Cond.code yX7_isReference cX7_isReference 1 (some .boolean) ∈ wsL_law := List.mem_of_getElem? (i := 286) (by decide +kernel)
set_option maxRecDepth 100000 in
theorem wm_287 : Cond.methodLink RL 48 yX6_undefine ∈ wsL_law := List.mem_of_getElem? (i := 287) (by decide +kernel)
set_option maxRecDepth 100000 in
theorem wm_288 : Cond.instanceMethod yX6_undefine ∈ wsL_law := List.mem_of_getElem? (i := 288) (by decide +kernel)
set_option maxRecDepth 100000 in
theorem wm_289 : Cond.selects RX6 yX6_undefine yX6_undefine ∈ wsL_law := List.mem_of_getElem? (i := 289) (by decide +kernel)
set_option maxRecDepth 100000 in
theorem wm_290 : Cond.code yX6_undefine cX6_undefine 3 (some .int) ∈ wsL_law := List.mem_of_getElem? (i := 290) (by decide +kernel)
set_option maxRecDepth 100000 in
theorem wm_291 : Cond.methodLink RX6 108 yX5_patternSize ∈ wsL_law := List.mem_of_getElem? (i := 291) (by decide +kernel)
set_option maxRecDepth 100000 in
theorem wm_292 : Cond.instanceMethod yX5_patternSize ∈ wsL_law := List.mem_of_getElem? (i := 292) (by decide +kernel)
set_option maxRecDepth 100000 in
theorem wm_293 : Cond.selects RX5 yX5_patternSize yX5_patternSize ∈ wsL_law := List.mem_of_getElem? (i := 293) (by decide +kernel)
set_option maxRecDepth 100000 in
theorem wm_294 : Cond.code yX5_patternSize cX5_patternSize 2 (some .int) ∈ wsL_law := List.mem_of_getElem? (i := 294) (by decide +kernel)
set_option maxRecDepth 100000 in
theorem wm_295 : Cond.methodLink RL 51 yX7_undefine ∈ wsL_law := List.mem_of_getElem? (i := 295) (by decide +kernel)
set_option maxRecDepth 100000 in
theorem wm_296 : Cond.instanceMethod yX7_undefine ∈ wsL_law := List.mem_of_getElem? (i := 296) (by decide +kernel)
set_option maxRecDepth 100000 in
theorem wm_297 : Cond.selects RX7 yX7_undefine yX7_undefine ∈ wsL_law := List.mem_of_getElem? (i := 297) (by decide +kernel)
set_option maxRecDepth 100000 in
theorem wm_298 : Cond.code yX7_undefine cX7_undefine 3 (some .int) ∈ wsL_law := List.mem_of_getElem? (i := 298) (by decide +kernel)
set_option maxRecDepth 100000 in
theorem wm_299 : Cond.methodLink RL 52 yX6_setStop ∈ wsL_law := List.mem_of_getElem? (i := 299) (by decide +kernel)
set_option maxRecDepth 100000 in
theorem wm_300 : Cond.instanceMethod yX6_setStop ∈ wsL_law := List.mem_of_getElem? (i := 300) (by decide +kernel)
set_option maxRecDepth 100000 in
theorem wm_301 : Cond.selects RX6 yX6_setStop yX6_setStop ∈ wsL_law := List.mem_of_getElem? (i := 301) (by decide +kernel)
set_option maxRecDepth 100000 in
theorem wm_302 : Cond.code yX6_setStop cX6_setStop 4 (some .int) ∈ wsL_law := List.mem_of_getElem? (i := 302) (by decide +kernel)
set_option maxRecDepth 100000 in
theorem wm_303 : Cond.methodLink RX6 111 yX5_stopOf ∈ wsL_law := List.mem_of_getElem? (i := 303) (by decide +kernel)
set_option maxRecDepth 100000 in
theorem wm_304 : Cond.instanceMethod yX5_stopOf ∈ wsL_law := List.mem_of_getElem? (i := 304) (by decide +kernel)
set_option maxRecDepth 100000 in
theorem wm_305 : Cond.selects RX5 yX5_stopOf yX5_stopOf ∈ wsL_law := List.mem_of_getElem? (i := 305) (by decide +kernel)
set_option maxRecDepth 100000 in
theorem wm_306 : Cond.code yX5_stopOf cX5_stopOf 2 (some .int) ∈ wsL_law := List.mem_of_getElem? (i := 306) (by decide +kernel)
set_option maxRecDepth 100000 in
theorem wm_307 : Cond.methodLink RX6 114 yX5_putStop ∈ wsL_law := List.mem_of_getElem? (i := 307) (by decide +kernel)
set_option maxRecDepth 100000 in
theorem wm_308 : Cond.instanceMethod yX5_putStop ∈ wsL_law := List.mem_of_getElem? (i := 308) (by decide +kernel)
set_option maxRecDepth 100000 in
theorem wm_309 : Cond.selects RX5 yX5_putStop yX5_putStop ∈ wsL_law := List.mem_of_getElem? (i := 309) (by decide +kernel)
set_option maxRecDepth 100000 in
theorem wm_310 : Cond.code yX5_putStop cX5_putStop 3 none ∈ wsL_law := List.mem_of_getElem? (i := 310) (by decide +kernel)
set_option maxRecDepth 100000 in
theorem wm_311 : Cond.methodLink RL 55 yX7_setStop ∈ wsL_law := List.mem_of_getElem? (i := 311) (by decide +kernel)
set_option maxRecDepth 100000 in
theorem wm_312 : Cond.instanceMethod yX7_setStop ∈ wsL_law := List.mem_of_getElem? (i := 312) (by decide +kernel)
set_option maxRecDepth 100000 in
theorem wm_313 : Cond.selects RX7 yX7_setStop yX7_setStop ∈ wsL_law := List.mem_of_getElem? (i := 313) (by decide +kernel)
set_option maxRecDepth 100000 in
theorem wm_314 : Cond.code yX7_setStop cX7_setStop 4 (some .int) ∈ wsL_law := List.mem_of_getElem? (i := 314) (by decide +kernel)
set_option maxRecDepth 100000 in
theorem wm_315 : Cond.methodLink RL 56 yX6_element ∈ wsL_law := List.mem_of_getElem? (i := 315) (by decide +kernel)
set_option maxRecDepth 100000 in
theorem wm_316 : Cond.instanceMethod yX6_element ∈ wsL_law := List.mem_of_getElem? (i := 316) (by decide +kernel)
set_option maxRecDepth 100000 in
theorem wm_317 : Cond.selects RX6 yX6_element yX6_element ∈ wsL_law := List.mem_of_getElem? (i := 317) (by decide +kernel)
set_option maxRecDepth 100000 in
theorem wm_318 : Cond.code yX6_element cX6_element 3 (some .int) ∈ wsL_law := List.mem_of_getElem? (i := 318) (by decide +kernel)
set_option maxRecDepth 100000 in
theorem wm_319 : Cond.methodLink RX6 117 yX5_patternAt ∈ wsL_law := List.mem_of_getElem? (i := 319) (by decide +kernel)
set_option maxRecDepth 100000 in
theorem wm_320 : Cond.instanceMethod yX5_patternAt ∈ wsL_law := List.mem_of_getElem? (i := 320) (by decide +kernel)
set_option maxRecDepth 100000 in
theorem wm_321 : Cond.selects RX5 yX5_patternAt yX5_patternAt ∈ wsL_law := List.mem_of_getElem? (i := 321) (by decide +kernel)
set_option maxRecDepth 100000 in
theorem wm_322 : Cond.code yX5_patternAt cX5_patternAt 3 (some .int) ∈ wsL_law := List.mem_of_getElem? (i := 322) (by decide +kernel)
set_option maxRecDepth 100000 in
theorem wm_323 : Cond.methodLink RL 59 yX7_element ∈ wsL_law := List.mem_of_getElem? (i := 323) (by decide +kernel)
set_option maxRecDepth 100000 in
theorem wm_324 : Cond.instanceMethod yX7_element ∈ wsL_law := List.mem_of_getElem? (i := 324) (by decide +kernel)
set_option maxRecDepth 100000 in
theorem wm_325 : Cond.selects RX7 yX7_element yX7_element ∈ wsL_law := List.mem_of_getElem? (i := 325) (by decide +kernel)
set_option maxRecDepth 100000 in
theorem wm_326 : Cond.code yX7_element cX7_element 3 (some .int) ∈ wsL_law := List.mem_of_getElem? (i := 326) (by decide +kernel)
set_option maxRecDepth 100000 in
theorem wm_327 : Cond.methodLink RX7 71 yX7_elementOf ∈ wsL_law := List.mem_of_getElem? (i := 327) (by decide +kernel)
set_option maxRecDepth 100000 in
theorem wm_328 : Cond.instanceMethod yX7_elementOf ∈ wsL_law := List.mem_of_getElem? (i := 328) (by decide +kernel)
set_option maxRecDepth 100000 in
theorem wm_329 : Cond.selects RX7 yX7_elementOf yX7_elementOf ∈ wsL_law := List.mem_of_getElem? (i := 329) (by decide +kernel)
set_option maxRecDepth 100000 in
theorem wm_330 : Cond.code yX7_elementOf cX7_elementOf 3 (some .int) ∈ wsL_law := List.mem_of_getElem? (i := 330) (by decide +kernel)
set_option maxRecDepth 100000 in
theorem wm_331 : Cond.methodLink RL 60 yX6_matchEnd ∈ wsL_law := List.mem_of_getElem? (i := 331) (by decide +kernel)
set_option maxRecDepth 100000 in
theorem wm_332 : Cond.instanceMethod yX6_matchEnd ∈ wsL_law := List.mem_of_getElem? (i := 332) (by decide +kernel)
set_option maxRecDepth 100000 in
theorem wm_333 : Cond.selects RX6 yX6_matchEnd yX6_matchEnd ∈ wsL_law := List.mem_of_getElem? (i := 333) (by decide +kernel)
set_option maxRecDepth 100000 in
theorem wm_334 : Cond.code yX6_matchEnd cX6_matchEnd 3 (some .int) ∈ wsL_law := List.mem_of_getElem? (i := 334) (by decide +kernel)
set_option maxRecDepth 100000 in
theorem wm_335 : Cond.methodLink RX6 121 yX6_refresh ∈ wsL_law := List.mem_of_getElem? (i := 335) (by decide +kernel)
set_option maxRecDepth 100000 in
theorem wm_336 : Cond.instanceMethod yX6_refresh ∈ wsL_law := List.mem_of_getElem? (i := 336) (by decide +kernel)
set_option maxRecDepth 100000 in
theorem wm_337 : Cond.selects RX6 yX6_refresh yX6_refresh ∈ wsL_law := List.mem_of_getElem? (i := 337) (by decide +kernel)
set_option maxRecDepth 100000 in
theorem wm_338 : Cond.code yX6_refresh cX6_refresh 1 none ∈ wsL_law := List.mem_of_getElem? (i := 338) (by decide +kernel)
set_option maxRecDepth 100000 in
theorem wm_339 : Cond.methodLink RX6 197 yX2_update ∈ wsL_law := List.mem_of_getElem? (i := 339) (by decide +kernel)
set_option maxRecDepth 100000 in
theorem wm_340 : Cond.instanceMethod yX2_update ∈ wsL_law := List.mem_of_getElem? (i := 340) (by decide +kernel)
set_option maxRecDepth 100000 in
theorem wm_341 : Cond.selects RX2 yX2_update yX2_update ∈ wsL_law := List.mem_of_getElem? (i := 341) (by decide +kernel)
set_option maxRecDepth 100000 in
theorem wm_342 : Cond.code yX2_update cX2_update 3 none ∈ wsL_law := List.mem_of_getElem? (i := 342) (by decide +kernel)
set_option maxRecDepth 100000 in
theorem wm_343 : Cond.methodLink RX2 37 yX5_textSize ∈ wsL_law := List.mem_of_getElem? (i := 343) (by decide +kernel)
set_option maxRecDepth 100000 in
theorem wm_344 : Cond.methodLink RX2 43 yX2_markRuns ∈ wsL_law := List.mem_of_getElem? (i := 344) (by decide +kernel)
set_option maxRecDepth 100000 in
theorem wm_345 : Cond.instanceMethod yX2_markRuns ∈ wsL_law := List.mem_of_getElem? (i := 345) (by decide +kernel)
set_option maxRecDepth 100000 in
theorem wm_346 : Cond.selects RX2 yX2_markRuns yX2_markRuns ∈ wsL_law := List.mem_of_getElem? (i := 346) (by decide +kernel)
set_option maxRecDepth 100000 in
theorem wm_347 : Cond.code yX2_markRuns cX2_markRuns 3 none ∈ wsL_law := List.mem_of_getElem? (i := 347) (by decide +kernel)
set_option maxRecDepth 100000 in
theorem wm_348 : Cond.methodLink RX2 64 yX5_textAt ∈ wsL_law := List.mem_of_getElem? (i := 348) (by decide +kernel)
set_option maxRecDepth 100000 in
theorem wm_349 : Cond.static yX6_isDigit ∈ wsL_law := List.mem_of_getElem? (i := 349) (by decide +kernel)
set_option maxRecDepth 100000 in
theorem wm_350 : Cond.code yX6_isDigit cX6_isDigit 1 (some .boolean) ∈ wsL_law := List.mem_of_getElem? (i := 350) (by decide +kernel)
set_option maxRecDepth 100000 in
theorem wm_351 : Cond.methodLink RX2 70 yX2_runEnd ∈ wsL_law := List.mem_of_getElem? (i := 351) (by decide +kernel)
set_option maxRecDepth 100000 in
theorem wm_352 : Cond.static yX2_runEnd ∈ wsL_law := List.mem_of_getElem? (i := 352) (by decide +kernel)
set_option maxRecDepth 100000 in
theorem wm_353 : Cond.code yX2_runEnd cX2_runEnd 3 (some .int) ∈ wsL_law := List.mem_of_getElem? (i := 353) (by decide +kernel)
set_option maxRecDepth 100000 in
theorem wm_354 : Cond.methodLink RX2 57 yX4_get ∈ wsL_law := List.mem_of_getElem? (i := 354) (by decide +kernel)
set_option maxRecDepth 100000 in
theorem wm_355 : Cond.methodLink RX2 74 yX4_set ∈ wsL_law := List.mem_of_getElem? (i := 355) (by decide +kernel)
set_option maxRecDepth 100000 in
theorem wm_356 : Cond.static yX6_isLetter ∈ wsL_law := List.mem_of_getElem? (i := 356) (by decide +kernel)
set_option maxRecDepth 100000 in
theorem wm_357 : Cond.code yX6_isLetter cX6_isLetter 1 (some .boolean) ∈ wsL_law := List.mem_of_getElem? (i := 357) (by decide +kernel)
set_option maxRecDepth 100000 in
theorem wm_358 : Cond.methodLink RX2 46 yX2_matchIslands ∈ wsL_law := List.mem_of_getElem? (i := 358) (by decide +kernel)
set_option maxRecDepth 100000 in
theorem wm_359 : Cond.instanceMethod yX2_matchIslands ∈ wsL_law := List.mem_of_getElem? (i := 359) (by decide +kernel)
set_option maxRecDepth 100000 in
theorem wm_360 : Cond.selects RX2 yX2_matchIslands yX2_matchIslands ∈ wsL_law := List.mem_of_getElem? (i := 360) (by decide +kernel)
set_option maxRecDepth 100000 in
theorem wm_361 : Cond.code yX2_matchIslands cX2_matchIslands 5 none ∈ wsL_law := List.mem_of_getElem? (i := 361) (by decide +kernel)
set_option maxRecDepth 100000 in
theorem wm_362 : Cond.methodLink RX2 80 yX5_patternSize ∈ wsL_law := List.mem_of_getElem? (i := 362) (by decide +kernel)
set_option maxRecDepth 100000 in
theorem wm_363 : Cond.methodLink RX2 83 yX5_patternAt ∈ wsL_law := List.mem_of_getElem? (i := 363) (by decide +kernel)
set_option maxRecDepth 100000 in
theorem wm_364 : Cond.methodLink RX2 87 yX2_elementEnd ∈ wsL_law := List.mem_of_getElem? (i := 364) (by decide +kernel)
set_option maxRecDepth 100000 in
theorem wm_365 : Cond.instanceMethod yX2_elementEnd ∈ wsL_law := List.mem_of_getElem? (i := 365) (by decide +kernel)
set_option maxRecDepth 100000 in
theorem wm_366 : Cond.selects RX2 yX2_elementEnd yX2_elementEnd ∈ wsL_law := List.mem_of_getElem? (i := 366) (by decide +kernel)
set_option maxRecDepth 100000 in
theorem wm_367 : Cond.code yX2_elementEnd cX2_elementEnd 3 (some .int) ∈ wsL_law := List.mem_of_getElem? (i := 367) (by decide +kernel)
set_option maxRecDepth 100000 in
theorem wm_368 : Cond.methodLink RX2 53 yX0_get ∈ wsL_law := List.mem_of_getElem? (i := 368) (by decide +kernel)
set_option maxRecDepth 100000 in
theorem wm_369 : Cond.instanceMethod yX0_get ∈ wsL_law := List.mem_of_getElem? (i := 369) (by decide +kernel)
set_option maxRecDepth 100000 in
theorem wm_370 : Cond.selects RX0 yX0_get yX0_get ∈ wsL_law := List.mem_of_getElem? (i := 370) (by decide +kernel)
set_option maxRecDepth 100000 in
theorem wm_371 : Cond.code yX0_get cX0_get 5 (some .int) ∈ wsL_law := List.mem_of_getElem? (i := 371) (by decide +kernel)
set_option maxRecDepth 100000 in
theorem wm_372 : Cond.methodLink RX2 90 yX0_set ∈ wsL_law := List.mem_of_getElem? (i := 372) (by decide +kernel)
set_option maxRecDepth 100000 in
theorem wm_373 : Cond.instanceMethod yX0_set ∈ wsL_law := List.mem_of_getElem? (i := 373) (by decide +kernel)
set_option maxRecDepth 100000 in
theorem wm_374 : Cond.selects RX0 yX0_set yX0_set ∈ wsL_law := List.mem_of_getElem? (i := 374) (by decide +kernel)
set_option maxRecDepth 100000 in
theorem wm_375 : Cond.code yX0_set cX0_set 6 none ∈ wsL_law := List.mem_of_getElem? (i := 375) (by decide +kernel)
set_option maxRecDepth 100000 in
theorem wm_376 : Cond.methodLink RX2 49 yX2_matchRests ∈ wsL_law := List.mem_of_getElem? (i := 376) (by decide +kernel)
set_option maxRecDepth 100000 in
theorem wm_377 : Cond.instanceMethod yX2_matchRests ∈ wsL_law := List.mem_of_getElem? (i := 377) (by decide +kernel)
set_option maxRecDepth 100000 in
theorem wm_378 : Cond.selects RX2 yX2_matchRests yX2_matchRests ∈ wsL_law := List.mem_of_getElem? (i := 378) (by decide +kernel)
set_option maxRecDepth 100000 in
theorem wm_379 : Cond.code yX2_matchRests cX2_matchRests 7 none ∈ wsL_law := List.mem_of_getElem? (i := 379) (by decide +kernel)
set_option maxRecDepth 100000 in
theorem wm_380 : Cond.methodLink RX2 93 yX2_waterRestEnd ∈ wsL_law := List.mem_of_getElem? (i := 380) (by decide +kernel)
set_option maxRecDepth 100000 in
theorem wm_381 : Cond.instanceMethod yX2_waterRestEnd ∈ wsL_law := List.mem_of_getElem? (i := 381) (by decide +kernel)
set_option maxRecDepth 100000 in
theorem wm_382 : Cond.selects RX2 yX2_waterRestEnd yX2_waterRestEnd ∈ wsL_law := List.mem_of_getElem? (i := 382) (by decide +kernel)
set_option maxRecDepth 100000 in
theorem wm_383 : Cond.code yX2_waterRestEnd cX2_waterRestEnd 7 (some .int) ∈ wsL_law := List.mem_of_getElem? (i := 383) (by decide +kernel)
set_option maxRecDepth 100000 in
theorem wm_384 : Cond.methodLink RX2 96 yX5_stopOf ∈ wsL_law := List.mem_of_getElem? (i := 384) (by decide +kernel)
set_option maxRecDepth 100000 in
theorem wm_385 : Cond.methodLink RX6 200 yX3_update ∈ wsL_law := List.mem_of_getElem? (i := 385) (by decide +kernel)
set_option maxRecDepth 100000 in
theorem wm_386 : Cond.instanceMethod yX3_update ∈ wsL_law := List.mem_of_getElem? (i := 386) (by decide +kernel)
set_option maxRecDepth 100000 in
theorem wm_387 : Cond.selects RX3 yX3_update yX3_update ∈ wsL_law := List.mem_of_getElem? (i := 387) (by decide +kernel)
set_option maxRecDepth 100000 in
theorem wm_388 : Cond.code yX3_update cX3_update 4 none ∈ wsL_law := List.mem_of_getElem? (i := 388) (by decide +kernel)
set_option maxRecDepth 100000 in
theorem wm_389 : Cond.methodLink RX3 68 yX3_clear ∈ wsL_law := List.mem_of_getElem? (i := 389) (by decide +kernel)
set_option maxRecDepth 100000 in
theorem wm_390 : Cond.instanceMethod yX3_clear ∈ wsL_law := List.mem_of_getElem? (i := 390) (by decide +kernel)
set_option maxRecDepth 100000 in
theorem wm_391 : Cond.selects RX3 yX3_clear yX3_clear ∈ wsL_law := List.mem_of_getElem? (i := 391) (by decide +kernel)
set_option maxRecDepth 100000 in
theorem wm_392 : Cond.code yX3_clear cX3_clear 1 none ∈ wsL_law := List.mem_of_getElem? (i := 392) (by decide +kernel)
set_option maxRecDepth 100000 in
theorem wm_393 : Cond.methodLink RX3 94 yX4_fill ∈ wsL_law := List.mem_of_getElem? (i := 393) (by decide +kernel)
set_option maxRecDepth 100000 in
theorem wm_394 : Cond.methodLink RX3 71 yX5_textSize ∈ wsL_law := List.mem_of_getElem? (i := 394) (by decide +kernel)
set_option maxRecDepth 100000 in
theorem wm_395 : Cond.methodLink RX3 77 yX3_takeTopLevel ∈ wsL_law := List.mem_of_getElem? (i := 395) (by decide +kernel)
set_option maxRecDepth 100000 in
theorem wm_396 : Cond.instanceMethod yX3_takeTopLevel ∈ wsL_law := List.mem_of_getElem? (i := 396) (by decide +kernel)
set_option maxRecDepth 100000 in
theorem wm_397 : Cond.selects RX3 yX3_takeTopLevel yX3_takeTopLevel ∈ wsL_law := List.mem_of_getElem? (i := 397) (by decide +kernel)
set_option maxRecDepth 100000 in
theorem wm_398 : Cond.code yX3_takeTopLevel cX3_takeTopLevel 3 (some .int) ∈ wsL_law := List.mem_of_getElem? (i := 398) (by decide +kernel)
set_option maxRecDepth 100000 in
theorem wm_399 : Cond.methodLink RX3 102 Lib.Math.max.name ∈ wsL_law := List.mem_of_getElem? (i := 399) (by decide +kernel)
set_option maxRecDepth 100000 in
theorem wm_400 : Cond.static Lib.Math.max.name ∈ wsL_law := List.mem_of_getElem? (i := 400) (by decide +kernel)
set_option maxRecDepth 100000 in
theorem wm_401 : Cond.code Lib.Math.max.name Lib.Math.max.code 2 (some .int) ∈ wsL_law := List.mem_of_getElem? (i := 401) (by decide +kernel)
set_option maxRecDepth 100000 in
theorem wm_402 : Cond.methodLink RX3 97 yX2_firstRule ∈ wsL_law := List.mem_of_getElem? (i := 402) (by decide +kernel)
set_option maxRecDepth 100000 in
theorem wm_403 : Cond.instanceMethod yX2_firstRule ∈ wsL_law := List.mem_of_getElem? (i := 403) (by decide +kernel)
set_option maxRecDepth 100000 in
theorem wm_404 : Cond.selects RX2 yX2_firstRule yX2_firstRule ∈ wsL_law := List.mem_of_getElem? (i := 404) (by decide +kernel)
set_option maxRecDepth 100000 in
theorem wm_405 : Cond.code yX2_firstRule cX2_firstRule 2 (some .int) ∈ wsL_law := List.mem_of_getElem? (i := 405) (by decide +kernel)
set_option maxRecDepth 100000 in
theorem wm_406 : Cond.methodLink RX3 108 yX3_announce ∈ wsL_law := List.mem_of_getElem? (i := 406) (by decide +kernel)
set_option maxRecDepth 100000 in
theorem wm_407 : Cond.instanceMethod yX3_announce ∈ wsL_law := List.mem_of_getElem? (i := 407) (by decide +kernel)
set_option maxRecDepth 100000 in
theorem wm_408 : Cond.selects RX3 yX3_announce yX3_announce ∈ wsL_law := List.mem_of_getElem? (i := 408) (by decide +kernel)
set_option maxRecDepth 100000 in
theorem wm_409 : Cond.code yX3_announce cX3_announce 4 none ∈ wsL_law := List.mem_of_getElem? (i := 409) (by decide +kernel)
set_option maxRecDepth 100000 in
theorem wm_410 : Cond.methodLink RX3 115 yX4_set ∈ wsL_law := List.mem_of_getElem? (i := 410) (by decide +kernel)
set_option maxRecDepth 100000 in
theorem wm_411 : Cond.methodLink RX3 112 yX2_islandEnd ∈ wsL_law := List.mem_of_getElem? (i := 411) (by decide +kernel)
set_option maxRecDepth 100000 in
theorem wm_412 : Cond.instanceMethod yX2_islandEnd ∈ wsL_law := List.mem_of_getElem? (i := 412) (by decide +kernel)
set_option maxRecDepth 100000 in
theorem wm_413 : Cond.selects RX2 yX2_islandEnd yX2_islandEnd ∈ wsL_law := List.mem_of_getElem? (i := 413) (by decide +kernel)
set_option maxRecDepth 100000 in
theorem wm_414 : Cond.code yX2_islandEnd cX2_islandEnd 3 (some .int) ∈ wsL_law := List.mem_of_getElem? (i := 414) (by decide +kernel)
set_option maxRecDepth 100000 in
theorem wm_415 : Cond.methodLink RX3 81 yX4_get ∈ wsL_law := List.mem_of_getElem? (i := 415) (by decide +kernel)
set_option maxRecDepth 100000 in
theorem wm_416 : Cond.methodLink RX3 84 yX3_addNode ∈ wsL_law := List.mem_of_getElem? (i := 416) (by decide +kernel)
set_option maxRecDepth 100000 in
theorem wm_417 : Cond.instanceMethod yX3_addNode ∈ wsL_law := List.mem_of_getElem? (i := 417) (by decide +kernel)
set_option maxRecDepth 100000 in
theorem wm_418 : Cond.selects RX3 yX3_addNode yX3_addNode ∈ wsL_law := List.mem_of_getElem? (i := 418) (by decide +kernel)
set_option maxRecDepth 100000 in
theorem wm_419 : Cond.code yX3_addNode cX3_addNode 4 none ∈ wsL_law := List.mem_of_getElem? (i := 419) (by decide +kernel)
set_option maxRecDepth 100000 in
theorem wm_420 : Cond.methodLink RX3 87 yX3_walkPattern ∈ wsL_law := List.mem_of_getElem? (i := 420) (by decide +kernel)
set_option maxRecDepth 100000 in
theorem wm_421 : Cond.instanceMethod yX3_walkPattern ∈ wsL_law := List.mem_of_getElem? (i := 421) (by decide +kernel)
set_option maxRecDepth 100000 in
theorem wm_422 : Cond.selects RX3 yX3_walkPattern yX3_walkPattern ∈ wsL_law := List.mem_of_getElem? (i := 422) (by decide +kernel)
set_option maxRecDepth 100000 in
theorem wm_423 : Cond.code yX3_walkPattern cX3_walkPattern 8 none ∈ wsL_law := List.mem_of_getElem? (i := 423) (by decide +kernel)
set_option maxRecDepth 100000 in
theorem wm_424 : Cond.methodLink RX3 119 yX5_patternSize ∈ wsL_law := List.mem_of_getElem? (i := 424) (by decide +kernel)
set_option maxRecDepth 100000 in
theorem wm_425 : Cond.methodLink RX3 122 yX5_patternAt ∈ wsL_law := List.mem_of_getElem? (i := 425) (by decide +kernel)
set_option maxRecDepth 100000 in
theorem wm_426 : Cond.methodLink RX3 125 yX3_walkWater ∈ wsL_law := List.mem_of_getElem? (i := 426) (by decide +kernel)
set_option maxRecDepth 100000 in
theorem wm_427 : Cond.instanceMethod yX3_walkWater ∈ wsL_law := List.mem_of_getElem? (i := 427) (by decide +kernel)
set_option maxRecDepth 100000 in
theorem wm_428 : Cond.selects RX3 yX3_walkWater yX3_walkWater ∈ wsL_law := List.mem_of_getElem? (i := 428) (by decide +kernel)
set_option maxRecDepth 100000 in
theorem wm_429 : Cond.code yX3_walkWater cX3_walkWater 8 (some .int) ∈ wsL_law := List.mem_of_getElem? (i := 429) (by decide +kernel)
set_option maxRecDepth 100000 in
theorem wm_430 : Cond.methodLink RX3 139 yX2_restMatches ∈ wsL_law := List.mem_of_getElem? (i := 430) (by decide +kernel)
set_option maxRecDepth 100000 in
theorem wm_431 : Cond.instanceMethod yX2_restMatches ∈ wsL_law := List.mem_of_getElem? (i := 431) (by decide +kernel)
set_option maxRecDepth 100000 in
theorem wm_432 : Cond.selects RX2 yX2_restMatches yX2_restMatches ∈ wsL_law := List.mem_of_getElem? (i := 432) (by decide +kernel)
set_option maxRecDepth 100000 in
theorem wm_433 : Cond.code yX2_restMatches cX2_restMatches 4 (some .boolean) ∈ wsL_law := List.mem_of_getElem? (i := 433) (by decide +kernel)
set_option maxRecDepth 100000 in
theorem wm_434 : Cond.methodLink RX3 129 yX2_elementEnd ∈ wsL_law := List.mem_of_getElem? (i := 434) (by decide +kernel)
set_option maxRecDepth 100000 in
theorem wm_435 : Cond.methodLink RX3 136 yX5_numberBetween ∈ wsL_law := List.mem_of_getElem? (i := 435) (by decide +kernel)
set_option maxRecDepth 100000 in
theorem wm_436 : Cond.instanceMethod yX5_numberBetween ∈ wsL_law := List.mem_of_getElem? (i := 436) (by decide +kernel)
set_option maxRecDepth 100000 in
theorem wm_437 : Cond.selects RX5 yX5_numberBetween yX5_numberBetween ∈ wsL_law := List.mem_of_getElem? (i := 437) (by decide +kernel)
set_option maxRecDepth 100000 in
theorem wm_438 : Cond.code yX5_numberBetween cX5_numberBetween 5 (some .int) ∈ wsL_law := List.mem_of_getElem? (i := 438) (by decide +kernel)
set_option maxRecDepth 100000 in
theorem wm_439 : Cond.constant RX5 47 (1000000) ∈ wsL_law := List.mem_of_getElem? (i := 439) (by decide +kernel)
set_option maxRecDepth 100000 in
theorem wm_440 : Cond.methodLink RX5 44 yX5_textAt ∈ wsL_law := List.mem_of_getElem? (i := 440) (by decide +kernel)
set_option maxRecDepth 100000 in
theorem wm_441 : Cond.methodLink RX6 124 yX2_islandEnd ∈ wsL_law := List.mem_of_getElem? (i := 441) (by decide +kernel)
set_option maxRecDepth 100000 in
theorem wm_442 : Cond.methodLink RL 63 yX7_matchEnd ∈ wsL_law := List.mem_of_getElem? (i := 442) (by decide +kernel)
set_option maxRecDepth 100000 in
theorem wm_443 : Cond.instanceMethod yX7_matchEnd ∈ wsL_law := List.mem_of_getElem? (i := 443) (by decide +kernel)
set_option maxRecDepth 100000 in
theorem wm_444 : Cond.selects RX7 yX7_matchEnd yX7_matchEnd ∈ wsL_law := List.mem_of_getElem? (i := 444) (by decide +kernel)
set_option maxRecDepth 100000 in
theorem wm_445 : Cond.code yX7_matchEnd cX7_matchEnd 3 (some .int) ∈ wsL_law := List.mem_of_getElem? (i := 445) (by decide +kernel)
set_option maxRecDepth 100000 in
theorem wm_446 : Cond.methodLink RX7 97 yX7_findEnds ∈ wsL_law := List.mem_of_getElem? (i := 446) (by decide +kernel)
set_option maxRecDepth 100000 in
theorem wm_447 : Cond.instanceMethod yX7_findEnds ∈ wsL_law := List.mem_of_getElem? (i := 447) (by decide +kernel)
set_option maxRecDepth 100000 in
theorem wm_448 : Cond.selects RX7 yX7_findEnds yX7_findEnds ∈ wsL_law := List.mem_of_getElem? (i := 448) (by decide +kernel)
set_option maxRecDepth 100000 in
theorem wm_449 : Cond.code yX7_findEnds cX7_findEnds 4 none ∈ wsL_law := List.mem_of_getElem? (i := 449) (by decide +kernel)
set_option maxRecDepth 100000 in
theorem wm_450 : Cond.methodLink RX7 78 yX7_cell ∈ wsL_law := List.mem_of_getElem? (i := 450) (by decide +kernel)
set_option maxRecDepth 100000 in
theorem wm_451 : Cond.static yX7_cell ∈ wsL_law := List.mem_of_getElem? (i := 451) (by decide +kernel)
set_option maxRecDepth 100000 in
theorem wm_452 : Cond.code yX7_cell cX7_cell 3 (some .int) ∈ wsL_law := List.mem_of_getElem? (i := 452) (by decide +kernel)
set_option maxRecDepth 100000 in
theorem wm_453 : Cond.methodLink RX7 94 yX7_suffixEnd ∈ wsL_law := List.mem_of_getElem? (i := 453) (by decide +kernel)
set_option maxRecDepth 100000 in
theorem wm_454 : Cond.instanceMethod yX7_suffixEnd ∈ wsL_law := List.mem_of_getElem? (i := 454) (by decide +kernel)
set_option maxRecDepth 100000 in
theorem wm_455 : Cond.selects RX7 yX7_suffixEnd yX7_suffixEnd ∈ wsL_law := List.mem_of_getElem? (i := 455) (by decide +kernel)
set_option maxRecDepth 100000 in
theorem wm_456 : Cond.code yX7_suffixEnd cX7_suffixEnd 6 (some .int) ∈ wsL_law := List.mem_of_getElem? (i := 456) (by decide +kernel)
set_option maxRecDepth 100000 in
theorem wm_457 : Cond.methodLink RX7 88 yX7_waterEnd ∈ wsL_law := List.mem_of_getElem? (i := 457) (by decide +kernel)
set_option maxRecDepth 100000 in
theorem wm_458 : Cond.instanceMethod yX7_waterEnd ∈ wsL_law := List.mem_of_getElem? (i := 458) (by decide +kernel)
set_option maxRecDepth 100000 in
theorem wm_459 : Cond.selects RX7 yX7_waterEnd yX7_waterEnd ∈ wsL_law := List.mem_of_getElem? (i := 459) (by decide +kernel)
set_option maxRecDepth 100000 in
theorem wm_460 : Cond.code yX7_waterEnd cX7_waterEnd 7 (some .int) ∈ wsL_law := List.mem_of_getElem? (i := 460) (by decide +kernel)
set_option maxRecDepth 100000 in
theorem wm_461 : Cond.methodLink RX7 85 yX7_islandAt ∈ wsL_law := List.mem_of_getElem? (i := 461) (by decide +kernel)
set_option maxRecDepth 100000 in
theorem wm_462 : Cond.instanceMethod yX7_islandAt ∈ wsL_law := List.mem_of_getElem? (i := 462) (by decide +kernel)
set_option maxRecDepth 100000 in
theorem wm_463 : Cond.selects RX7 yX7_islandAt yX7_islandAt ∈ wsL_law := List.mem_of_getElem? (i := 463) (by decide +kernel)
set_option maxRecDepth 100000 in
theorem wm_464 : Cond.code yX7_islandAt cX7_islandAt 3 (some .int) ∈ wsL_law := List.mem_of_getElem? (i := 464) (by decide +kernel)
set_option maxRecDepth 100000 in
theorem wm_465 : Cond.methodLink RX7 91 yX7_elementEnd ∈ wsL_law := List.mem_of_getElem? (i := 465) (by decide +kernel)
set_option maxRecDepth 100000 in
theorem wm_466 : Cond.instanceMethod yX7_elementEnd ∈ wsL_law := List.mem_of_getElem? (i := 466) (by decide +kernel)
set_option maxRecDepth 100000 in
theorem wm_467 : Cond.selects RX7 yX7_elementEnd yX7_elementEnd ∈ wsL_law := List.mem_of_getElem? (i := 467) (by decide +kernel)
set_option maxRecDepth 100000 in
theorem wm_468 : Cond.code yX7_elementEnd cX7_elementEnd 4 (some .int) ∈ wsL_law := List.mem_of_getElem? (i := 468) (by decide +kernel)
set_option maxRecDepth 100000 in
theorem wm_469 : Cond.methodLink RX7 82 yX7_runEnd ∈ wsL_law := List.mem_of_getElem? (i := 469) (by decide +kernel)
set_option maxRecDepth 100000 in
theorem wm_470 : Cond.instanceMethod yX7_runEnd ∈ wsL_law := List.mem_of_getElem? (i := 470) (by decide +kernel)
set_option maxRecDepth 100000 in
theorem wm_471 : Cond.selects RX7 yX7_runEnd yX7_runEnd ∈ wsL_law := List.mem_of_getElem? (i := 471) (by decide +kernel)
set_option maxRecDepth 100000 in
theorem wm_472 : Cond.code yX7_runEnd cX7_runEnd 5 (some .int) ∈ wsL_law := List.mem_of_getElem? (i := 472) (by decide +kernel)
set_option maxRecDepth 100000 in
theorem wm_473 : Cond.methodLink RX7 75 yX7_isOf ∈ wsL_law := List.mem_of_getElem? (i := 473) (by decide +kernel)
set_option maxRecDepth 100000 in
theorem wm_474 : Cond.instanceMethod yX7_isOf ∈ wsL_law := List.mem_of_getElem? (i := 474) (by decide +kernel)
set_option maxRecDepth 100000 in
theorem wm_475 : Cond.selects RX7 yX7_isOf yX7_isOf ∈ wsL_law := List.mem_of_getElem? (i := 475) (by decide +kernel)
set_option maxRecDepth 100000 in
theorem wm_476 : Cond.code yX7_isOf cX7_isOf 4 (some .boolean) ∈ wsL_law := List.mem_of_getElem? (i := 476) (by decide +kernel)
set_option maxRecDepth 100000 in
theorem wm_477 : Cond.methodLink RL 64 yX6_nodeCount ∈ wsL_law := List.mem_of_getElem? (i := 477) (by decide +kernel)
set_option maxRecDepth 100000 in
theorem wm_478 : Cond.instanceMethod yX6_nodeCount ∈ wsL_law := List.mem_of_getElem? (i := 478) (by decide +kernel)
set_option maxRecDepth 100000 in
theorem wm_479 : Cond.selects RX6 yX6_nodeCount yX6_nodeCount ∈ wsL_law := List.mem_of_getElem? (i := 479) (by decide +kernel)
set_option maxRecDepth 100000 in
theorem wm_480 : Cond.code yX6_nodeCount cX6_nodeCount 1 (some .int) ∈ wsL_law := List.mem_of_getElem? (i := 480) (by decide +kernel)
set_option maxRecDepth 100000 in
theorem wm_481 : Cond.methodLink RX6 127 yX3_total ∈ wsL_law := List.mem_of_getElem? (i := 481) (by decide +kernel)
set_option maxRecDepth 100000 in
theorem wm_482 : Cond.instanceMethod yX3_total ∈ wsL_law := List.mem_of_getElem? (i := 482) (by decide +kernel)
set_option maxRecDepth 100000 in
theorem wm_483 : Cond.selects RX3 yX3_total yX3_total ∈ wsL_law := List.mem_of_getElem? (i := 483) (by decide +kernel)
set_option maxRecDepth 100000 in
theorem wm_484 : Cond.code yX3_total cX3_total 1 (some .int) ∈ wsL_law := List.mem_of_getElem? (i := 484) (by decide +kernel)
set_option maxRecDepth 100000 in
theorem wm_485 : Cond.methodLink RL 67 yX7_nodeCount ∈ wsL_law := List.mem_of_getElem? (i := 485) (by decide +kernel)
set_option maxRecDepth 100000 in
theorem wm_486 : Cond.instanceMethod yX7_nodeCount ∈ wsL_law := List.mem_of_getElem? (i := 486) (by decide +kernel)
set_option maxRecDepth 100000 in
theorem wm_487 : Cond.selects RX7 yX7_nodeCount yX7_nodeCount ∈ wsL_law := List.mem_of_getElem? (i := 487) (by decide +kernel)
set_option maxRecDepth 100000 in
theorem wm_488 : Cond.code yX7_nodeCount cX7_nodeCount 1 (some .int) ∈ wsL_law := List.mem_of_getElem? (i := 488) (by decide +kernel)
set_option maxRecDepth 100000 in
theorem wm_489 : Cond.fieldLink RX7 100 "IslandGrammarModel" "nodes" "I" ∈ wsL_law := List.mem_of_getElem? (i := 489) (by decide +kernel)
set_option maxRecDepth 100000 in
theorem wm_490 : Cond.methodLink RX7 130 yX7_parse ∈ wsL_law := List.mem_of_getElem? (i := 490) (by decide +kernel)
set_option maxRecDepth 100000 in
theorem wm_491 : Cond.instanceMethod yX7_parse ∈ wsL_law := List.mem_of_getElem? (i := 491) (by decide +kernel)
set_option maxRecDepth 100000 in
theorem wm_492 : Cond.selects RX7 yX7_parse yX7_parse ∈ wsL_law := List.mem_of_getElem? (i := 492) (by decide +kernel)
set_option maxRecDepth 100000 in
theorem wm_493 : Cond.code yX7_parse cX7_parse 4 none ∈ wsL_law := List.mem_of_getElem? (i := 493) (by decide +kernel)
set_option maxRecDepth 100000 in
theorem wm_494 : Cond.fieldLink RX7 114 "IslandGrammarModel" "water" "I" ∈ wsL_law := List.mem_of_getElem? (i := 494) (by decide +kernel)
set_option maxRecDepth 100000 in
theorem wm_495 : Cond.fieldLink RX7 117 "IslandGrammarModel" "longest" "I" ∈ wsL_law := List.mem_of_getElem? (i := 495) (by decide +kernel)
set_option maxRecDepth 100000 in
theorem wm_496 : Cond.fieldLink RX7 120 "IslandGrammarModel" "islands" "I" ∈ wsL_law := List.mem_of_getElem? (i := 496) (by decide +kernel)
set_option maxRecDepth 100000 in
theorem wm_497 : Cond.methodLink RX7 104 yX7_addNode ∈ wsL_law := List.mem_of_getElem? (i := 497) (by decide +kernel)
set_option maxRecDepth 100000 in
theorem wm_498 : Cond.instanceMethod yX7_addNode ∈ wsL_law := List.mem_of_getElem? (i := 498) (by decide +kernel)
set_option maxRecDepth 100000 in
theorem wm_499 : Cond.selects RX7 yX7_addNode yX7_addNode ∈ wsL_law := List.mem_of_getElem? (i := 499) (by decide +kernel)
set_option maxRecDepth 100000 in
theorem wm_500 : Cond.code yX7_addNode cX7_addNode 4 none ∈ wsL_law := List.mem_of_getElem? (i := 500) (by decide +kernel)
set_option maxRecDepth 100000 in
theorem wm_501 : Cond.methodLink RX7 123 yX7_follow ∈ wsL_law := List.mem_of_getElem? (i := 501) (by decide +kernel)
set_option maxRecDepth 100000 in
theorem wm_502 : Cond.instanceMethod yX7_follow ∈ wsL_law := List.mem_of_getElem? (i := 502) (by decide +kernel)
set_option maxRecDepth 100000 in
theorem wm_503 : Cond.selects RX7 yX7_follow yX7_follow ∈ wsL_law := List.mem_of_getElem? (i := 503) (by decide +kernel)
set_option maxRecDepth 100000 in
theorem wm_504 : Cond.code yX7_follow cX7_follow 6 none ∈ wsL_law := List.mem_of_getElem? (i := 504) (by decide +kernel)
set_option maxRecDepth 100000 in
theorem wm_505 : Cond.methodLink RX7 108 yX7_followWater ∈ wsL_law := List.mem_of_getElem? (i := 505) (by decide +kernel)
set_option maxRecDepth 100000 in
theorem wm_506 : Cond.instanceMethod yX7_followWater ∈ wsL_law := List.mem_of_getElem? (i := 506) (by decide +kernel)
set_option maxRecDepth 100000 in
theorem wm_507 : Cond.selects RX7 yX7_followWater yX7_followWater ∈ wsL_law := List.mem_of_getElem? (i := 507) (by decide +kernel)
set_option maxRecDepth 100000 in
theorem wm_508 : Cond.code yX7_followWater cX7_followWater 6 (some .int) ∈ wsL_law := List.mem_of_getElem? (i := 508) (by decide +kernel)
set_option maxRecDepth 100000 in
theorem wm_509 : Cond.methodLink RX7 111 yX7_numberAt ∈ wsL_law := List.mem_of_getElem? (i := 509) (by decide +kernel)
set_option maxRecDepth 100000 in
theorem wm_510 : Cond.instanceMethod yX7_numberAt ∈ wsL_law := List.mem_of_getElem? (i := 510) (by decide +kernel)
set_option maxRecDepth 100000 in
theorem wm_511 : Cond.selects RX7 yX7_numberAt yX7_numberAt ∈ wsL_law := List.mem_of_getElem? (i := 511) (by decide +kernel)
set_option maxRecDepth 100000 in
theorem wm_512 : Cond.code yX7_numberAt cX7_numberAt 4 (some .int) ∈ wsL_law := List.mem_of_getElem? (i := 512) (by decide +kernel)
set_option maxRecDepth 100000 in
theorem wm_513 : Cond.constant RX7 103 (1000000) ∈ wsL_law := List.mem_of_getElem? (i := 513) (by decide +kernel)
set_option maxRecDepth 100000 in
theorem wm_514 : Cond.methodLink RL 68 yX6_islandCount ∈ wsL_law := List.mem_of_getElem? (i := 514) (by decide +kernel)
set_option maxRecDepth 100000 in
theorem wm_515 : Cond.instanceMethod yX6_islandCount ∈ wsL_law := List.mem_of_getElem? (i := 515) (by decide +kernel)
set_option maxRecDepth 100000 in
theorem wm_516 : Cond.selects RX6 yX6_islandCount yX6_islandCount ∈ wsL_law := List.mem_of_getElem? (i := 516) (by decide +kernel)
set_option maxRecDepth 100000 in
theorem wm_517 : Cond.code yX6_islandCount cX6_islandCount 1 (some .int) ∈ wsL_law := List.mem_of_getElem? (i := 517) (by decide +kernel)
set_option maxRecDepth 100000 in
theorem wm_518 : Cond.methodLink RX6 130 yX3_topLevelTotal ∈ wsL_law := List.mem_of_getElem? (i := 518) (by decide +kernel)
set_option maxRecDepth 100000 in
theorem wm_519 : Cond.instanceMethod yX3_topLevelTotal ∈ wsL_law := List.mem_of_getElem? (i := 519) (by decide +kernel)
set_option maxRecDepth 100000 in
theorem wm_520 : Cond.selects RX3 yX3_topLevelTotal yX3_topLevelTotal ∈ wsL_law := List.mem_of_getElem? (i := 520) (by decide +kernel)
set_option maxRecDepth 100000 in
theorem wm_521 : Cond.code yX3_topLevelTotal cX3_topLevelTotal 1 (some .int) ∈ wsL_law := List.mem_of_getElem? (i := 521) (by decide +kernel)
set_option maxRecDepth 100000 in
theorem wm_522 : Cond.methodLink RL 71 yX7_islandCount ∈ wsL_law := List.mem_of_getElem? (i := 522) (by decide +kernel)
set_option maxRecDepth 100000 in
theorem wm_523 : Cond.instanceMethod yX7_islandCount ∈ wsL_law := List.mem_of_getElem? (i := 523) (by decide +kernel)
set_option maxRecDepth 100000 in
theorem wm_524 : Cond.selects RX7 yX7_islandCount yX7_islandCount ∈ wsL_law := List.mem_of_getElem? (i := 524) (by decide +kernel)
set_option maxRecDepth 100000 in
theorem wm_525 : Cond.code yX7_islandCount cX7_islandCount 1 (some .int) ∈ wsL_law := List.mem_of_getElem? (i := 525) (by decide +kernel)
set_option maxRecDepth 100000 in
theorem wm_526 : Cond.methodLink RL 72 yX6_nodeRule ∈ wsL_law := List.mem_of_getElem? (i := 526) (by decide +kernel)
set_option maxRecDepth 100000 in
theorem wm_527 : Cond.instanceMethod yX6_nodeRule ∈ wsL_law := List.mem_of_getElem? (i := 527) (by decide +kernel)
set_option maxRecDepth 100000 in
theorem wm_528 : Cond.selects RX6 yX6_nodeRule yX6_nodeRule ∈ wsL_law := List.mem_of_getElem? (i := 528) (by decide +kernel)
set_option maxRecDepth 100000 in
theorem wm_529 : Cond.code yX6_nodeRule cX6_nodeRule 2 (some .int) ∈ wsL_law := List.mem_of_getElem? (i := 529) (by decide +kernel)
set_option maxRecDepth 100000 in
theorem wm_530 : Cond.methodLink RX6 133 yX3_has ∈ wsL_law := List.mem_of_getElem? (i := 530) (by decide +kernel)
set_option maxRecDepth 100000 in
theorem wm_531 : Cond.instanceMethod yX3_has ∈ wsL_law := List.mem_of_getElem? (i := 531) (by decide +kernel)
set_option maxRecDepth 100000 in
theorem wm_532 : Cond.selects RX3 yX3_has yX3_has ∈ wsL_law := List.mem_of_getElem? (i := 532) (by decide +kernel)
set_option maxRecDepth 100000 in
theorem wm_533 : Cond.code yX3_has cX3_has 2 (some .boolean) ∈ wsL_law := List.mem_of_getElem? (i := 533) (by decide +kernel)
set_option maxRecDepth 100000 in
theorem wm_534 : Cond.methodLink RX6 136 yX3_ruleOf ∈ wsL_law := List.mem_of_getElem? (i := 534) (by decide +kernel)
set_option maxRecDepth 100000 in
theorem wm_535 : Cond.instanceMethod yX3_ruleOf ∈ wsL_law := List.mem_of_getElem? (i := 535) (by decide +kernel)
set_option maxRecDepth 100000 in
theorem wm_536 : Cond.selects RX3 yX3_ruleOf yX3_ruleOf ∈ wsL_law := List.mem_of_getElem? (i := 536) (by decide +kernel)
set_option maxRecDepth 100000 in
theorem wm_537 : Cond.code yX3_ruleOf cX3_ruleOf 2 (some .int) ∈ wsL_law := List.mem_of_getElem? (i := 537) (by decide +kernel)
set_option maxRecDepth 100000 in
theorem wm_538 : Cond.methodLink RL 75 yX7_nodeRule ∈ wsL_law := List.mem_of_getElem? (i := 538) (by decide +kernel)
set_option maxRecDepth 100000 in
theorem wm_539 : Cond.instanceMethod yX7_nodeRule ∈ wsL_law := List.mem_of_getElem? (i := 539) (by decide +kernel)
set_option maxRecDepth 100000 in
theorem wm_540 : Cond.selects RX7 yX7_nodeRule yX7_nodeRule ∈ wsL_law := List.mem_of_getElem? (i := 540) (by decide +kernel)
set_option maxRecDepth 100000 in
theorem wm_541 : Cond.code yX7_nodeRule cX7_nodeRule 2 (some .int) ∈ wsL_law := List.mem_of_getElem? (i := 541) (by decide +kernel)
set_option maxRecDepth 100000 in
theorem wm_542 : Cond.methodLink RX7 145 yX7_askNode ∈ wsL_law := List.mem_of_getElem? (i := 542) (by decide +kernel)
set_option maxRecDepth 100000 in
theorem wm_543 : Cond.instanceMethod yX7_askNode ∈ wsL_law := List.mem_of_getElem? (i := 543) (by decide +kernel)
set_option maxRecDepth 100000 in
theorem wm_544 : Cond.selects RX7 yX7_askNode yX7_askNode ∈ wsL_law := List.mem_of_getElem? (i := 544) (by decide +kernel)
set_option maxRecDepth 100000 in
theorem wm_545 : Cond.code yX7_askNode cX7_askNode 4 (some .int) ∈ wsL_law := List.mem_of_getElem? (i := 545) (by decide +kernel)
set_option maxRecDepth 100000 in
theorem wm_546 : Cond.methodLink RX7 133 yX7_foundOf ∈ wsL_law := List.mem_of_getElem? (i := 546) (by decide +kernel)
set_option maxRecDepth 100000 in
theorem wm_547 : Cond.instanceMethod yX7_foundOf ∈ wsL_law := List.mem_of_getElem? (i := 547) (by decide +kernel)
set_option maxRecDepth 100000 in
theorem wm_548 : Cond.selects RX7 yX7_foundOf yX7_foundOf ∈ wsL_law := List.mem_of_getElem? (i := 548) (by decide +kernel)
set_option maxRecDepth 100000 in
theorem wm_549 : Cond.code yX7_foundOf cX7_foundOf 3 (some .int) ∈ wsL_law := List.mem_of_getElem? (i := 549) (by decide +kernel)
set_option maxRecDepth 100000 in
theorem wm_550 : Cond.methodLink RX7 127 yX7_numberOf ∈ wsL_law := List.mem_of_getElem? (i := 550) (by decide +kernel)
set_option maxRecDepth 100000 in
theorem wm_551 : Cond.instanceMethod yX7_numberOf ∈ wsL_law := List.mem_of_getElem? (i := 551) (by decide +kernel)
set_option maxRecDepth 100000 in
theorem wm_552 : Cond.selects RX7 yX7_numberOf yX7_numberOf ∈ wsL_law := List.mem_of_getElem? (i := 552) (by decide +kernel)
set_option maxRecDepth 100000 in
theorem wm_553 : Cond.code yX7_numberOf cX7_numberOf 4 (some .int) ∈ wsL_law := List.mem_of_getElem? (i := 553) (by decide +kernel)
set_option maxRecDepth 100000 in
theorem wm_554 : Cond.methodLink RX7 136 yX7_endOf ∈ wsL_law := List.mem_of_getElem? (i := 554) (by decide +kernel)
set_option maxRecDepth 100000 in
theorem wm_555 : Cond.instanceMethod yX7_endOf ∈ wsL_law := List.mem_of_getElem? (i := 555) (by decide +kernel)
set_option maxRecDepth 100000 in
theorem wm_556 : Cond.selects RX7 yX7_endOf yX7_endOf ∈ wsL_law := List.mem_of_getElem? (i := 556) (by decide +kernel)
set_option maxRecDepth 100000 in
theorem wm_557 : Cond.code yX7_endOf cX7_endOf 2 (some .int) ∈ wsL_law := List.mem_of_getElem? (i := 557) (by decide +kernel)
set_option maxRecDepth 100000 in
theorem wm_558 : Cond.methodLink RX7 139 yX7_parentOf ∈ wsL_law := List.mem_of_getElem? (i := 558) (by decide +kernel)
set_option maxRecDepth 100000 in
theorem wm_559 : Cond.instanceMethod yX7_parentOf ∈ wsL_law := List.mem_of_getElem? (i := 559) (by decide +kernel)
set_option maxRecDepth 100000 in
theorem wm_560 : Cond.selects RX7 yX7_parentOf yX7_parentOf ∈ wsL_law := List.mem_of_getElem? (i := 560) (by decide +kernel)
set_option maxRecDepth 100000 in
theorem wm_561 : Cond.code yX7_parentOf cX7_parentOf 2 (some .int) ∈ wsL_law := List.mem_of_getElem? (i := 561) (by decide +kernel)
set_option maxRecDepth 100000 in
theorem wm_562 : Cond.methodLink RX7 142 yX7_depthOf ∈ wsL_law := List.mem_of_getElem? (i := 562) (by decide +kernel)
set_option maxRecDepth 100000 in
theorem wm_563 : Cond.instanceMethod yX7_depthOf ∈ wsL_law := List.mem_of_getElem? (i := 563) (by decide +kernel)
set_option maxRecDepth 100000 in
theorem wm_564 : Cond.selects RX7 yX7_depthOf yX7_depthOf ∈ wsL_law := List.mem_of_getElem? (i := 564) (by decide +kernel)
set_option maxRecDepth 100000 in
theorem wm_565 : Cond.code yX7_depthOf cX7_depthOf 4 (some .int) ∈ wsL_law := List.mem_of_getElem? (i := 565) (by decide +kernel)
set_option maxRecDepth 100000 in
theorem wm_566 : Cond.methodLink RL 76 yX6_nodeStart ∈ wsL_law := List.mem_of_getElem? (i := 566) (by decide +kernel)
set_option maxRecDepth 100000 in
theorem wm_567 : Cond.instanceMethod yX6_nodeStart ∈ wsL_law := List.mem_of_getElem? (i := 567) (by decide +kernel)
set_option maxRecDepth 100000 in
theorem wm_568 : Cond.selects RX6 yX6_nodeStart yX6_nodeStart ∈ wsL_law := List.mem_of_getElem? (i := 568) (by decide +kernel)
set_option maxRecDepth 100000 in
theorem wm_569 : Cond.code yX6_nodeStart cX6_nodeStart 2 (some .int) ∈ wsL_law := List.mem_of_getElem? (i := 569) (by decide +kernel)
set_option maxRecDepth 100000 in
theorem wm_570 : Cond.methodLink RX6 139 yX3_startOf ∈ wsL_law := List.mem_of_getElem? (i := 570) (by decide +kernel)
set_option maxRecDepth 100000 in
theorem wm_571 : Cond.instanceMethod yX3_startOf ∈ wsL_law := List.mem_of_getElem? (i := 571) (by decide +kernel)
set_option maxRecDepth 100000 in
theorem wm_572 : Cond.selects RX3 yX3_startOf yX3_startOf ∈ wsL_law := List.mem_of_getElem? (i := 572) (by decide +kernel)
set_option maxRecDepth 100000 in
theorem wm_573 : Cond.code yX3_startOf cX3_startOf 2 (some .int) ∈ wsL_law := List.mem_of_getElem? (i := 573) (by decide +kernel)
set_option maxRecDepth 100000 in
theorem wm_574 : Cond.methodLink RL 79 yX7_nodeStart ∈ wsL_law := List.mem_of_getElem? (i := 574) (by decide +kernel)
set_option maxRecDepth 100000 in
theorem wm_575 : Cond.instanceMethod yX7_nodeStart ∈ wsL_law := List.mem_of_getElem? (i := 575) (by decide +kernel)
set_option maxRecDepth 100000 in
theorem wm_576 : Cond.selects RX7 yX7_nodeStart yX7_nodeStart ∈ wsL_law := List.mem_of_getElem? (i := 576) (by decide +kernel)
set_option maxRecDepth 100000 in
theorem wm_577 : Cond.code yX7_nodeStart cX7_nodeStart 2 (some .int) ∈ wsL_law := List.mem_of_getElem? (i := 577) (by decide +kernel)
set_option maxRecDepth 100000 in
theorem wm_578 : Cond.methodLink RL 80 yX6_nodeEnd ∈ wsL_law := List.mem_of_getElem? (i := 578) (by decide +kernel)
set_option maxRecDepth 100000 in
theorem wm_579 : Cond.instanceMethod yX6_nodeEnd ∈ wsL_law := List.mem_of_getElem? (i := 579) (by decide +kernel)
set_option maxRecDepth 100000 in
theorem wm_580 : Cond.selects RX6 yX6_nodeEnd yX6_nodeEnd ∈ wsL_law := List.mem_of_getElem? (i := 580) (by decide +kernel)
set_option maxRecDepth 100000 in
theorem wm_581 : Cond.code yX6_nodeEnd cX6_nodeEnd 2 (some .int) ∈ wsL_law := List.mem_of_getElem? (i := 581) (by decide +kernel)
set_option maxRecDepth 100000 in
theorem wm_582 : Cond.methodLink RX6 142 yX3_endOf ∈ wsL_law := List.mem_of_getElem? (i := 582) (by decide +kernel)
set_option maxRecDepth 100000 in
theorem wm_583 : Cond.instanceMethod yX3_endOf ∈ wsL_law := List.mem_of_getElem? (i := 583) (by decide +kernel)
set_option maxRecDepth 100000 in
theorem wm_584 : Cond.selects RX3 yX3_endOf yX3_endOf ∈ wsL_law := List.mem_of_getElem? (i := 584) (by decide +kernel)
set_option maxRecDepth 100000 in
theorem wm_585 : Cond.code yX3_endOf cX3_endOf 2 (some .int) ∈ wsL_law := List.mem_of_getElem? (i := 585) (by decide +kernel)
set_option maxRecDepth 100000 in
theorem wm_586 : Cond.methodLink RL 83 yX7_nodeEnd ∈ wsL_law := List.mem_of_getElem? (i := 586) (by decide +kernel)
set_option maxRecDepth 100000 in
theorem wm_587 : Cond.instanceMethod yX7_nodeEnd ∈ wsL_law := List.mem_of_getElem? (i := 587) (by decide +kernel)
set_option maxRecDepth 100000 in
theorem wm_588 : Cond.selects RX7 yX7_nodeEnd yX7_nodeEnd ∈ wsL_law := List.mem_of_getElem? (i := 588) (by decide +kernel)
set_option maxRecDepth 100000 in
theorem wm_589 : Cond.code yX7_nodeEnd cX7_nodeEnd 2 (some .int) ∈ wsL_law := List.mem_of_getElem? (i := 589) (by decide +kernel)
set_option maxRecDepth 100000 in
theorem wm_590 : Cond.methodLink RL 84 yX6_nodeParent ∈ wsL_law := List.mem_of_getElem? (i := 590) (by decide +kernel)
set_option maxRecDepth 100000 in
theorem wm_591 : Cond.instanceMethod yX6_nodeParent ∈ wsL_law := List.mem_of_getElem? (i := 591) (by decide +kernel)
set_option maxRecDepth 100000 in
theorem wm_592 : Cond.selects RX6 yX6_nodeParent yX6_nodeParent ∈ wsL_law := List.mem_of_getElem? (i := 592) (by decide +kernel)
set_option maxRecDepth 100000 in
theorem wm_593 : Cond.code yX6_nodeParent cX6_nodeParent 2 (some .int) ∈ wsL_law := List.mem_of_getElem? (i := 593) (by decide +kernel)
set_option maxRecDepth 100000 in
theorem wm_594 : Cond.methodLink RX6 145 yX3_parentOf ∈ wsL_law := List.mem_of_getElem? (i := 594) (by decide +kernel)
set_option maxRecDepth 100000 in
theorem wm_595 : Cond.instanceMethod yX3_parentOf ∈ wsL_law := List.mem_of_getElem? (i := 595) (by decide +kernel)
set_option maxRecDepth 100000 in
theorem wm_596 : Cond.selects RX3 yX3_parentOf yX3_parentOf ∈ wsL_law := List.mem_of_getElem? (i := 596) (by decide +kernel)
set_option maxRecDepth 100000 in
theorem wm_597 : Cond.code yX3_parentOf cX3_parentOf 2 (some .int) ∈ wsL_law := List.mem_of_getElem? (i := 597) (by decide +kernel)
set_option maxRecDepth 100000 in
theorem wm_598 : Cond.methodLink RL 87 yX7_nodeParent ∈ wsL_law := List.mem_of_getElem? (i := 598) (by decide +kernel)
set_option maxRecDepth 100000 in
theorem wm_599 : Cond.instanceMethod yX7_nodeParent ∈ wsL_law := List.mem_of_getElem? (i := 599) (by decide +kernel)
set_option maxRecDepth 100000 in
theorem wm_600 : Cond.selects RX7 yX7_nodeParent yX7_nodeParent ∈ wsL_law := List.mem_of_getElem? (i := 600) (by decide +kernel)
set_option maxRecDepth 100000 in
theorem wm_601 : Cond.code yX7_nodeParent cX7_nodeParent 2 (some .int) ∈ wsL_law := List.mem_of_getElem? (i := 601) (by decide +kernel)
set_option maxRecDepth 100000 in
theorem wm_602 : Cond.methodLink RL 88 yX6_nodeDepth ∈ wsL_law := List.mem_of_getElem? (i := 602) (by decide +kernel)
set_option maxRecDepth 100000 in
theorem wm_603 : Cond.instanceMethod yX6_nodeDepth ∈ wsL_law := List.mem_of_getElem? (i := 603) (by decide +kernel)
set_option maxRecDepth 100000 in
theorem wm_604 : Cond.selects RX6 yX6_nodeDepth yX6_nodeDepth ∈ wsL_law := List.mem_of_getElem? (i := 604) (by decide +kernel)
set_option maxRecDepth 100000 in
theorem wm_605 : Cond.code yX6_nodeDepth cX6_nodeDepth 2 (some .int) ∈ wsL_law := List.mem_of_getElem? (i := 605) (by decide +kernel)
set_option maxRecDepth 100000 in
theorem wm_606 : Cond.methodLink RX6 148 yX3_depthOf ∈ wsL_law := List.mem_of_getElem? (i := 606) (by decide +kernel)
set_option maxRecDepth 100000 in
theorem wm_607 : Cond.instanceMethod yX3_depthOf ∈ wsL_law := List.mem_of_getElem? (i := 607) (by decide +kernel)
set_option maxRecDepth 100000 in
theorem wm_608 : Cond.selects RX3 yX3_depthOf yX3_depthOf ∈ wsL_law := List.mem_of_getElem? (i := 608) (by decide +kernel)
set_option maxRecDepth 100000 in
theorem wm_609 : Cond.code yX3_depthOf cX3_depthOf 2 (some .int) ∈ wsL_law := List.mem_of_getElem? (i := 609) (by decide +kernel)
set_option maxRecDepth 100000 in
theorem wm_610 : Cond.methodLink RL 91 yX7_nodeDepth ∈ wsL_law := List.mem_of_getElem? (i := 610) (by decide +kernel)
set_option maxRecDepth 100000 in
theorem wm_611 : Cond.instanceMethod yX7_nodeDepth ∈ wsL_law := List.mem_of_getElem? (i := 611) (by decide +kernel)
set_option maxRecDepth 100000 in
theorem wm_612 : Cond.selects RX7 yX7_nodeDepth yX7_nodeDepth ∈ wsL_law := List.mem_of_getElem? (i := 612) (by decide +kernel)
set_option maxRecDepth 100000 in
theorem wm_613 : Cond.code yX7_nodeDepth cX7_nodeDepth 2 (some .int) ∈ wsL_law := List.mem_of_getElem? (i := 613) (by decide +kernel)
set_option maxRecDepth 100000 in
theorem wm_614 : Cond.methodLink RL 92 yX6_nodeWater ∈ wsL_law := List.mem_of_getElem? (i := 614) (by decide +kernel)
set_option maxRecDepth 100000 in
theorem wm_615 : Cond.instanceMethod yX6_nodeWater ∈ wsL_law := List.mem_of_getElem? (i := 615) (by decide +kernel)
set_option maxRecDepth 100000 in
theorem wm_616 : Cond.selects RX6 yX6_nodeWater yX6_nodeWater ∈ wsL_law := List.mem_of_getElem? (i := 616) (by decide +kernel)
set_option maxRecDepth 100000 in
theorem wm_617 : Cond.code yX6_nodeWater cX6_nodeWater 2 (some .int) ∈ wsL_law := List.mem_of_getElem? (i := 617) (by decide +kernel)
set_option maxRecDepth 100000 in
theorem wm_618 : Cond.methodLink RX6 151 yX3_waterOf ∈ wsL_law := List.mem_of_getElem? (i := 618) (by decide +kernel)
set_option maxRecDepth 100000 in
theorem wm_619 : Cond.instanceMethod yX3_waterOf ∈ wsL_law := List.mem_of_getElem? (i := 619) (by decide +kernel)
set_option maxRecDepth 100000 in
theorem wm_620 : Cond.selects RX3 yX3_waterOf yX3_waterOf ∈ wsL_law := List.mem_of_getElem? (i := 620) (by decide +kernel)
set_option maxRecDepth 100000 in
theorem wm_621 : Cond.code yX3_waterOf cX3_waterOf 2 (some .int) ∈ wsL_law := List.mem_of_getElem? (i := 621) (by decide +kernel)
set_option maxRecDepth 100000 in
theorem wm_622 : Cond.methodLink RL 95 yX7_nodeWater ∈ wsL_law := List.mem_of_getElem? (i := 622) (by decide +kernel)
set_option maxRecDepth 100000 in
theorem wm_623 : Cond.instanceMethod yX7_nodeWater ∈ wsL_law := List.mem_of_getElem? (i := 623) (by decide +kernel)
set_option maxRecDepth 100000 in
theorem wm_624 : Cond.selects RX7 yX7_nodeWater yX7_nodeWater ∈ wsL_law := List.mem_of_getElem? (i := 624) (by decide +kernel)
set_option maxRecDepth 100000 in
theorem wm_625 : Cond.code yX7_nodeWater cX7_nodeWater 2 (some .int) ∈ wsL_law := List.mem_of_getElem? (i := 625) (by decide +kernel)
set_option maxRecDepth 100000 in
theorem wm_626 : Cond.methodLink RL 96 yX6_nodeNumber ∈ wsL_law := List.mem_of_getElem? (i := 626) (by decide +kernel)
set_option maxRecDepth 100000 in
theorem wm_627 : Cond.instanceMethod yX6_nodeNumber ∈ wsL_law := List.mem_of_getElem? (i := 627) (by decide +kernel)
set_option maxRecDepth 100000 in
theorem wm_628 : Cond.selects RX6 yX6_nodeNumber yX6_nodeNumber ∈ wsL_law := List.mem_of_getElem? (i := 628) (by decide +kernel)
set_option maxRecDepth 100000 in
theorem wm_629 : Cond.code yX6_nodeNumber cX6_nodeNumber 2 (some .int) ∈ wsL_law := List.mem_of_getElem? (i := 629) (by decide +kernel)
set_option maxRecDepth 100000 in
theorem wm_630 : Cond.methodLink RX6 154 yX3_numberOf ∈ wsL_law := List.mem_of_getElem? (i := 630) (by decide +kernel)
set_option maxRecDepth 100000 in
theorem wm_631 : Cond.instanceMethod yX3_numberOf ∈ wsL_law := List.mem_of_getElem? (i := 631) (by decide +kernel)
set_option maxRecDepth 100000 in
theorem wm_632 : Cond.selects RX3 yX3_numberOf yX3_numberOf ∈ wsL_law := List.mem_of_getElem? (i := 632) (by decide +kernel)
set_option maxRecDepth 100000 in
theorem wm_633 : Cond.code yX3_numberOf cX3_numberOf 2 (some .int) ∈ wsL_law := List.mem_of_getElem? (i := 633) (by decide +kernel)
set_option maxRecDepth 100000 in
theorem wm_634 : Cond.methodLink RL 99 yX7_nodeNumber ∈ wsL_law := List.mem_of_getElem? (i := 634) (by decide +kernel)
set_option maxRecDepth 100000 in
theorem wm_635 : Cond.instanceMethod yX7_nodeNumber ∈ wsL_law := List.mem_of_getElem? (i := 635) (by decide +kernel)
set_option maxRecDepth 100000 in
theorem wm_636 : Cond.selects RX7 yX7_nodeNumber yX7_nodeNumber ∈ wsL_law := List.mem_of_getElem? (i := 636) (by decide +kernel)
set_option maxRecDepth 100000 in
theorem wm_637 : Cond.code yX7_nodeNumber cX7_nodeNumber 2 (some .int) ∈ wsL_law := List.mem_of_getElem? (i := 637) (by decide +kernel)
set_option maxRecDepth 100000 in
theorem wm_638 : Cond.methodLink RL 100 yX6_nodeAt ∈ wsL_law := List.mem_of_getElem? (i := 638) (by decide +kernel)
set_option maxRecDepth 100000 in
theorem wm_639 : Cond.instanceMethod yX6_nodeAt ∈ wsL_law := List.mem_of_getElem? (i := 639) (by decide +kernel)
set_option maxRecDepth 100000 in
theorem wm_640 : Cond.selects RX6 yX6_nodeAt yX6_nodeAt ∈ wsL_law := List.mem_of_getElem? (i := 640) (by decide +kernel)
set_option maxRecDepth 100000 in
theorem wm_641 : Cond.code yX6_nodeAt cX6_nodeAt 2 (some .int) ∈ wsL_law := List.mem_of_getElem? (i := 641) (by decide +kernel)
set_option maxRecDepth 100000 in
theorem wm_642 : Cond.methodLink RX6 157 yX3_innermostAt ∈ wsL_law := List.mem_of_getElem? (i := 642) (by decide +kernel)
set_option maxRecDepth 100000 in
theorem wm_643 : Cond.instanceMethod yX3_innermostAt ∈ wsL_law := List.mem_of_getElem? (i := 643) (by decide +kernel)
set_option maxRecDepth 100000 in
theorem wm_644 : Cond.selects RX3 yX3_innermostAt yX3_innermostAt ∈ wsL_law := List.mem_of_getElem? (i := 644) (by decide +kernel)
set_option maxRecDepth 100000 in
theorem wm_645 : Cond.code yX3_innermostAt cX3_innermostAt 3 (some .int) ∈ wsL_law := List.mem_of_getElem? (i := 645) (by decide +kernel)
set_option maxRecDepth 100000 in
theorem wm_646 : Cond.methodLink RL 103 yX7_nodeAt ∈ wsL_law := List.mem_of_getElem? (i := 646) (by decide +kernel)
set_option maxRecDepth 100000 in
theorem wm_647 : Cond.instanceMethod yX7_nodeAt ∈ wsL_law := List.mem_of_getElem? (i := 647) (by decide +kernel)
set_option maxRecDepth 100000 in
theorem wm_648 : Cond.selects RX7 yX7_nodeAt yX7_nodeAt ∈ wsL_law := List.mem_of_getElem? (i := 648) (by decide +kernel)
set_option maxRecDepth 100000 in
theorem wm_649 : Cond.code yX7_nodeAt cX7_nodeAt 5 (some .int) ∈ wsL_law := List.mem_of_getElem? (i := 649) (by decide +kernel)
set_option maxRecDepth 100000 in
theorem wm_650 : Cond.methodLink RL 104 yX6_waterLength ∈ wsL_law := List.mem_of_getElem? (i := 650) (by decide +kernel)
set_option maxRecDepth 100000 in
theorem wm_651 : Cond.instanceMethod yX6_waterLength ∈ wsL_law := List.mem_of_getElem? (i := 651) (by decide +kernel)
set_option maxRecDepth 100000 in
theorem wm_652 : Cond.selects RX6 yX6_waterLength yX6_waterLength ∈ wsL_law := List.mem_of_getElem? (i := 652) (by decide +kernel)
set_option maxRecDepth 100000 in
theorem wm_653 : Cond.code yX6_waterLength cX6_waterLength 1 (some .int) ∈ wsL_law := List.mem_of_getElem? (i := 653) (by decide +kernel)
set_option maxRecDepth 100000 in
theorem wm_654 : Cond.methodLink RX6 160 yX3_topWater ∈ wsL_law := List.mem_of_getElem? (i := 654) (by decide +kernel)
set_option maxRecDepth 100000 in
theorem wm_655 : Cond.instanceMethod yX3_topWater ∈ wsL_law := List.mem_of_getElem? (i := 655) (by decide +kernel)
set_option maxRecDepth 100000 in
theorem wm_656 : Cond.selects RX3 yX3_topWater yX3_topWater ∈ wsL_law := List.mem_of_getElem? (i := 656) (by decide +kernel)
set_option maxRecDepth 100000 in
theorem wm_657 : Cond.code yX3_topWater cX3_topWater 1 (some .int) ∈ wsL_law := List.mem_of_getElem? (i := 657) (by decide +kernel)
set_option maxRecDepth 100000 in
theorem wm_658 : Cond.methodLink RL 107 yX7_waterLength ∈ wsL_law := List.mem_of_getElem? (i := 658) (by decide +kernel)
set_option maxRecDepth 100000 in
theorem wm_659 : Cond.instanceMethod yX7_waterLength ∈ wsL_law := List.mem_of_getElem? (i := 659) (by decide +kernel)
set_option maxRecDepth 100000 in
theorem wm_660 : Cond.selects RX7 yX7_waterLength yX7_waterLength ∈ wsL_law := List.mem_of_getElem? (i := 660) (by decide +kernel)
set_option maxRecDepth 100000 in
theorem wm_661 : Cond.code yX7_waterLength cX7_waterLength 1 (some .int) ∈ wsL_law := List.mem_of_getElem? (i := 661) (by decide +kernel)
set_option maxRecDepth 100000 in
theorem wm_662 : Cond.methodLink RL 108 yX6_longestWater ∈ wsL_law := List.mem_of_getElem? (i := 662) (by decide +kernel)
set_option maxRecDepth 100000 in
theorem wm_663 : Cond.instanceMethod yX6_longestWater ∈ wsL_law := List.mem_of_getElem? (i := 663) (by decide +kernel)
set_option maxRecDepth 100000 in
theorem wm_664 : Cond.selects RX6 yX6_longestWater yX6_longestWater ∈ wsL_law := List.mem_of_getElem? (i := 664) (by decide +kernel)
set_option maxRecDepth 100000 in
theorem wm_665 : Cond.code yX6_longestWater cX6_longestWater 1 (some .int) ∈ wsL_law := List.mem_of_getElem? (i := 665) (by decide +kernel)
set_option maxRecDepth 100000 in
theorem wm_666 : Cond.methodLink RX6 163 yX3_longestTopWater ∈ wsL_law := List.mem_of_getElem? (i := 666) (by decide +kernel)
set_option maxRecDepth 100000 in
theorem wm_667 : Cond.instanceMethod yX3_longestTopWater ∈ wsL_law := List.mem_of_getElem? (i := 667) (by decide +kernel)
set_option maxRecDepth 100000 in
theorem wm_668 : Cond.selects RX3 yX3_longestTopWater yX3_longestTopWater ∈ wsL_law := List.mem_of_getElem? (i := 668) (by decide +kernel)
set_option maxRecDepth 100000 in
theorem wm_669 : Cond.code yX3_longestTopWater cX3_longestTopWater 1 (some .int) ∈ wsL_law := List.mem_of_getElem? (i := 669) (by decide +kernel)
set_option maxRecDepth 100000 in
theorem wm_670 : Cond.methodLink RL 111 yX7_longestWater ∈ wsL_law := List.mem_of_getElem? (i := 670) (by decide +kernel)
set_option maxRecDepth 100000 in
theorem wm_671 : Cond.instanceMethod yX7_longestWater ∈ wsL_law := List.mem_of_getElem? (i := 671) (by decide +kernel)
set_option maxRecDepth 100000 in
theorem wm_672 : Cond.selects RX7 yX7_longestWater yX7_longestWater ∈ wsL_law := List.mem_of_getElem? (i := 672) (by decide +kernel)
set_option maxRecDepth 100000 in
theorem wm_673 : Cond.code yX7_longestWater cX7_longestWater 1 (some .int) ∈ wsL_law := List.mem_of_getElem? (i := 673) (by decide +kernel)
set_option maxRecDepth 100000 in
theorem wm_674 : Cond.methodLink RL 112 yX6_countOf ∈ wsL_law := List.mem_of_getElem? (i := 674) (by decide +kernel)
set_option maxRecDepth 100000 in
theorem wm_675 : Cond.instanceMethod yX6_countOf ∈ wsL_law := List.mem_of_getElem? (i := 675) (by decide +kernel)
set_option maxRecDepth 100000 in
theorem wm_676 : Cond.selects RX6 yX6_countOf yX6_countOf ∈ wsL_law := List.mem_of_getElem? (i := 676) (by decide +kernel)
set_option maxRecDepth 100000 in
theorem wm_677 : Cond.code yX6_countOf cX6_countOf 2 (some .int) ∈ wsL_law := List.mem_of_getElem? (i := 677) (by decide +kernel)
set_option maxRecDepth 100000 in
theorem wm_678 : Cond.methodLink RX6 166 yX3_totalOf ∈ wsL_law := List.mem_of_getElem? (i := 678) (by decide +kernel)
set_option maxRecDepth 100000 in
theorem wm_679 : Cond.instanceMethod yX3_totalOf ∈ wsL_law := List.mem_of_getElem? (i := 679) (by decide +kernel)
set_option maxRecDepth 100000 in
theorem wm_680 : Cond.selects RX3 yX3_totalOf yX3_totalOf ∈ wsL_law := List.mem_of_getElem? (i := 680) (by decide +kernel)
set_option maxRecDepth 100000 in
theorem wm_681 : Cond.code yX3_totalOf cX3_totalOf 4 (some .int) ∈ wsL_law := List.mem_of_getElem? (i := 681) (by decide +kernel)
set_option maxRecDepth 100000 in
theorem wm_682 : Cond.methodLink RL 115 yX7_countOf ∈ wsL_law := List.mem_of_getElem? (i := 682) (by decide +kernel)
set_option maxRecDepth 100000 in
theorem wm_683 : Cond.instanceMethod yX7_countOf ∈ wsL_law := List.mem_of_getElem? (i := 683) (by decide +kernel)
set_option maxRecDepth 100000 in
theorem wm_684 : Cond.selects RX7 yX7_countOf yX7_countOf ∈ wsL_law := List.mem_of_getElem? (i := 684) (by decide +kernel)
set_option maxRecDepth 100000 in
theorem wm_685 : Cond.code yX7_countOf cX7_countOf 4 (some .int) ∈ wsL_law := List.mem_of_getElem? (i := 685) (by decide +kernel)
set_option maxRecDepth 100000 in
theorem wm_686 : Cond.methodLink RL 116 yX6_undo ∈ wsL_law := List.mem_of_getElem? (i := 686) (by decide +kernel)
set_option maxRecDepth 100000 in
theorem wm_687 : Cond.instanceMethod yX6_undo ∈ wsL_law := List.mem_of_getElem? (i := 687) (by decide +kernel)
set_option maxRecDepth 100000 in
theorem wm_688 : Cond.selects RX6 yX6_undo yX6_undo ∈ wsL_law := List.mem_of_getElem? (i := 688) (by decide +kernel)
set_option maxRecDepth 100000 in
theorem wm_689 : Cond.code yX6_undo cX6_undo 1 (some .int) ∈ wsL_law := List.mem_of_getElem? (i := 689) (by decide +kernel)
set_option maxRecDepth 100000 in
theorem wm_690 : Cond.methodLink RX6 169 yX1_savedCount ∈ wsL_law := List.mem_of_getElem? (i := 690) (by decide +kernel)
set_option maxRecDepth 100000 in
theorem wm_691 : Cond.instanceMethod yX1_savedCount ∈ wsL_law := List.mem_of_getElem? (i := 691) (by decide +kernel)
set_option maxRecDepth 100000 in
theorem wm_692 : Cond.selects RX1 yX1_savedCount yX1_savedCount ∈ wsL_law := List.mem_of_getElem? (i := 692) (by decide +kernel)
set_option maxRecDepth 100000 in
theorem wm_693 : Cond.code yX1_savedCount cX1_savedCount 1 (some .int) ∈ wsL_law := List.mem_of_getElem? (i := 693) (by decide +kernel)
set_option maxRecDepth 100000 in
theorem wm_694 : Cond.methodLink RX6 172 yX1_restore ∈ wsL_law := List.mem_of_getElem? (i := 694) (by decide +kernel)
set_option maxRecDepth 100000 in
theorem wm_695 : Cond.instanceMethod yX1_restore ∈ wsL_law := List.mem_of_getElem? (i := 695) (by decide +kernel)
set_option maxRecDepth 100000 in
theorem wm_696 : Cond.selects RX1 yX1_restore yX1_restore ∈ wsL_law := List.mem_of_getElem? (i := 696) (by decide +kernel)
set_option maxRecDepth 100000 in
theorem wm_697 : Cond.code yX1_restore cX1_restore 2 none ∈ wsL_law := List.mem_of_getElem? (i := 697) (by decide +kernel)
set_option maxRecDepth 100000 in
theorem wm_698 : Cond.methodLink RX1 39 Lib.Math.max.name ∈ wsL_law := List.mem_of_getElem? (i := 698) (by decide +kernel)
set_option maxRecDepth 100000 in
theorem wm_699 : Cond.methodLink RL 119 yX7_undo ∈ wsL_law := List.mem_of_getElem? (i := 699) (by decide +kernel)
set_option maxRecDepth 100000 in
theorem wm_700 : Cond.instanceMethod yX7_undo ∈ wsL_law := List.mem_of_getElem? (i := 700) (by decide +kernel)
set_option maxRecDepth 100000 in
theorem wm_701 : Cond.selects RX7 yX7_undo yX7_undo ∈ wsL_law := List.mem_of_getElem? (i := 701) (by decide +kernel)
set_option maxRecDepth 100000 in
theorem wm_702 : Cond.code yX7_undo cX7_undo 2 (some .int) ∈ wsL_law := List.mem_of_getElem? (i := 702) (by decide +kernel)
set_option maxRecDepth 100000 in
theorem wm_703 : Cond.methodLink RL 120 yX6_errorCount ∈ wsL_law := List.mem_of_getElem? (i := 703) (by decide +kernel)
set_option maxRecDepth 100000 in
theorem wm_704 : Cond.instanceMethod yX6_errorCount ∈ wsL_law := List.mem_of_getElem? (i := 704) (by decide +kernel)
set_option maxRecDepth 100000 in
theorem wm_705 : Cond.selects RX6 yX6_errorCount yX6_errorCount ∈ wsL_law := List.mem_of_getElem? (i := 705) (by decide +kernel)
set_option maxRecDepth 100000 in
theorem wm_706 : Cond.code yX6_errorCount cX6_errorCount 2 (some .int) ∈ wsL_law := List.mem_of_getElem? (i := 706) (by decide +kernel)
set_option maxRecDepth 100000 in
theorem wm_707 : Cond.methodLink RL 123 yX7_errorCount ∈ wsL_law := List.mem_of_getElem? (i := 707) (by decide +kernel)
set_option maxRecDepth 100000 in
theorem wm_708 : Cond.instanceMethod yX7_errorCount ∈ wsL_law := List.mem_of_getElem? (i := 708) (by decide +kernel)
set_option maxRecDepth 100000 in
theorem wm_709 : Cond.selects RX7 yX7_errorCount yX7_errorCount ∈ wsL_law := List.mem_of_getElem? (i := 709) (by decide +kernel)
set_option maxRecDepth 100000 in
theorem wm_710 : Cond.code yX7_errorCount cX7_errorCount 2 (some .int) ∈ wsL_law := List.mem_of_getElem? (i := 710) (by decide +kernel)
set_option maxRecDepth 100000 in
theorem wm_711 : Cond.methodLink RL 124 yX6_digest ∈ wsL_law := List.mem_of_getElem? (i := 711) (by decide +kernel)
set_option maxRecDepth 100000 in
theorem wm_712 : Cond.instanceMethod yX6_digest ∈ wsL_law := List.mem_of_getElem? (i := 712) (by decide +kernel)
set_option maxRecDepth 100000 in
theorem wm_713 : Cond.selects RX6 yX6_digest yX6_digest ∈ wsL_law := List.mem_of_getElem? (i := 713) (by decide +kernel)
set_option maxRecDepth 100000 in
theorem wm_714 : Cond.code yX6_digest cX6_digest 3 (some .long) ∈ wsL_law := List.mem_of_getElem? (i := 714) (by decide +kernel)
set_option maxRecDepth 100000 in
theorem wm_715 : Cond.constantLong RX6 175 (17305) ∈ wsL_law := List.mem_of_getElem? (i := 715) (by decide +kernel)
set_option maxRecDepth 100000 in
theorem wm_716 : Cond.methodLink RX6 177 yX4_mixInto ∈ wsL_law := List.mem_of_getElem? (i := 716) (by decide +kernel)
set_option maxRecDepth 100000 in
theorem wm_717 : Cond.instanceMethod yX4_mixInto ∈ wsL_law := List.mem_of_getElem? (i := 717) (by decide +kernel)
set_option maxRecDepth 100000 in
theorem wm_718 : Cond.selects RX4 yX4_mixInto yX4_mixInto ∈ wsL_law := List.mem_of_getElem? (i := 718) (by decide +kernel)
set_option maxRecDepth 100000 in
theorem wm_719 : Cond.code yX4_mixInto cX4_mixInto 8 (some .long) ∈ wsL_law := List.mem_of_getElem? (i := 719) (by decide +kernel)
set_option maxRecDepth 100000 in
theorem wm_720 : Cond.methodLink RX4 21 yX4_get ∈ wsL_law := List.mem_of_getElem? (i := 720) (by decide +kernel)
set_option maxRecDepth 100000 in
theorem wm_721 : Cond.static yX6_mix ∈ wsL_law := List.mem_of_getElem? (i := 721) (by decide +kernel)
set_option maxRecDepth 100000 in
theorem wm_722 : Cond.code yX6_mix cX6_mix 4 (some .long) ∈ wsL_law := List.mem_of_getElem? (i := 722) (by decide +kernel)
set_option maxRecDepth 100000 in
theorem wm_723 : Cond.constantLong RX6 192 (31) ∈ wsL_law := List.mem_of_getElem? (i := 723) (by decide +kernel)
set_option maxRecDepth 100000 in
theorem wm_724 : Cond.methodLink RX6 181 yX6_mix ∈ wsL_law := List.mem_of_getElem? (i := 724) (by decide +kernel)
set_option maxRecDepth 100000 in
theorem wm_725 : Cond.methodLink RX6 185 yX5_mixInto ∈ wsL_law := List.mem_of_getElem? (i := 725) (by decide +kernel)
set_option maxRecDepth 100000 in
theorem wm_726 : Cond.instanceMethod yX5_mixInto ∈ wsL_law := List.mem_of_getElem? (i := 726) (by decide +kernel)
set_option maxRecDepth 100000 in
theorem wm_727 : Cond.selects RX5 yX5_mixInto yX5_mixInto ∈ wsL_law := List.mem_of_getElem? (i := 727) (by decide +kernel)
set_option maxRecDepth 100000 in
theorem wm_728 : Cond.code yX5_mixInto cX5_mixInto 7 (some .long) ∈ wsL_law := List.mem_of_getElem? (i := 728) (by decide +kernel)
set_option maxRecDepth 100000 in
theorem wm_729 : Cond.methodLink RX5 56 yX4_mixInto ∈ wsL_law := List.mem_of_getElem? (i := 729) (by decide +kernel)
set_option maxRecDepth 100000 in
theorem wm_730 : Cond.methodLink RX5 60 yX5_patternSize ∈ wsL_law := List.mem_of_getElem? (i := 730) (by decide +kernel)
set_option maxRecDepth 100000 in
theorem wm_731 : Cond.methodLink RX5 63 yX5_stopOf ∈ wsL_law := List.mem_of_getElem? (i := 731) (by decide +kernel)
set_option maxRecDepth 100000 in
theorem wm_732 : Cond.methodLink RX6 188 yX3_mixInto ∈ wsL_law := List.mem_of_getElem? (i := 732) (by decide +kernel)
set_option maxRecDepth 100000 in
theorem wm_733 : Cond.instanceMethod yX3_mixInto ∈ wsL_law := List.mem_of_getElem? (i := 733) (by decide +kernel)
set_option maxRecDepth 100000 in
theorem wm_734 : Cond.selects RX3 yX3_mixInto yX3_mixInto ∈ wsL_law := List.mem_of_getElem? (i := 734) (by decide +kernel)
set_option maxRecDepth 100000 in
theorem wm_735 : Cond.code yX3_mixInto cX3_mixInto 6 (some .long) ∈ wsL_law := List.mem_of_getElem? (i := 735) (by decide +kernel)
set_option maxRecDepth 100000 in
theorem wm_736 : Cond.methodLink RL 128 yX7_digest ∈ wsL_law := List.mem_of_getElem? (i := 736) (by decide +kernel)
set_option maxRecDepth 100000 in
theorem wm_737 : Cond.instanceMethod yX7_digest ∈ wsL_law := List.mem_of_getElem? (i := 737) (by decide +kernel)
set_option maxRecDepth 100000 in
theorem wm_738 : Cond.selects RX7 yX7_digest yX7_digest ∈ wsL_law := List.mem_of_getElem? (i := 738) (by decide +kernel)
set_option maxRecDepth 100000 in
theorem wm_739 : Cond.code yX7_digest cX7_digest 3 (some .long) ∈ wsL_law := List.mem_of_getElem? (i := 739) (by decide +kernel)
set_option maxRecDepth 100000 in
theorem wm_740 : Cond.constantLong RX7 157 (17305) ∈ wsL_law := List.mem_of_getElem? (i := 740) (by decide +kernel)
set_option maxRecDepth 100000 in
theorem wm_741 : Cond.fieldLink RX7 150 "IslandGrammarModel" "hash" "J" ∈ wsL_law := List.mem_of_getElem? (i := 741) (by decide +kernel)
set_option maxRecDepth 100000 in
theorem wm_742 : Cond.methodLink RX7 154 yX7_mix ∈ wsL_law := List.mem_of_getElem? (i := 742) (by decide +kernel)
set_option maxRecDepth 100000 in
theorem wm_743 : Cond.instanceMethod yX7_mix ∈ wsL_law := List.mem_of_getElem? (i := 743) (by decide +kernel)
set_option maxRecDepth 100000 in
theorem wm_744 : Cond.selects RX7 yX7_mix yX7_mix ∈ wsL_law := List.mem_of_getElem? (i := 744) (by decide +kernel)
set_option maxRecDepth 100000 in
theorem wm_745 : Cond.code yX7_mix cX7_mix 2 none ∈ wsL_law := List.mem_of_getElem? (i := 745) (by decide +kernel)
set_option maxRecDepth 100000 in
theorem wm_746 : Cond.constantLong RX7 148 (31) ∈ wsL_law := List.mem_of_getElem? (i := 746) (by decide +kernel)
set_option maxRecDepth 100000 in
theorem wm_747 : Cond.methodLink RX7 159 yX7_mixRules ∈ wsL_law := List.mem_of_getElem? (i := 747) (by decide +kernel)
set_option maxRecDepth 100000 in
theorem wm_748 : Cond.instanceMethod yX7_mixRules ∈ wsL_law := List.mem_of_getElem? (i := 748) (by decide +kernel)
set_option maxRecDepth 100000 in
theorem wm_749 : Cond.selects RX7 yX7_mixRules yX7_mixRules ∈ wsL_law := List.mem_of_getElem? (i := 749) (by decide +kernel)
set_option maxRecDepth 100000 in
theorem wm_750 : Cond.code yX7_mixRules cX7_mixRules 3 none ∈ wsL_law := List.mem_of_getElem? (i := 750) (by decide +kernel)
end
section
theorem dX0_init_0 : decode cX0_init 0 = .ok (.aload_n 0, 1) := by decide +kernel
theorem dX0_init_1 : decode cX0_init 1 = .ok (.invokespecial 3, 3) := by decide +kernel
theorem dX0_init_4 : decode cX0_init 4 = .ok (.aload_n 0, 1) := by decide +kernel
theorem dX0_init_5 : decode cX0_init 5 = .ok (.sipush 5454, 3) := by decide +kernel
theorem dX0_init_8 : decode cX0_init 8 = .ok (.newarray .int, 2) := by decide +kernel
theorem dX0_init_10 : decode cX0_init 10 = .ok (.putfield 11, 3) := by decide +kernel
theorem dX0_init_13 : decode cX0_init 13 = .ok (.return_, 1) := by decide +kernel
theorem dX0_get_0 : decode cX0_get 0 = .ok (.iload_n 1, 1) := by decide +kernel
theorem dX0_get_1 : decode cX0_get 1 = .ok (.bipush 9, 2) := by decide +kernel
theorem dX0_get_3 : decode cX0_get 3 = .ok (.imul, 1) := by decide +kernel
theorem dX0_get_4 : decode cX0_get 4 = .ok (.iload_n 2, 1) := by decide +kernel
theorem dX0_get_5 : decode cX0_get 5 = .ok (.iadd, 1) := by decide +kernel
theorem dX0_get_6 : decode cX0_get 6 = .ok (.bipush 101, 2) := by decide +kernel
theorem dX0_get_8 : decode cX0_get 8 = .ok (.imul, 1) := by decide +kernel
theorem dX0_get_9 : decode cX0_get 9 = .ok (.iload_n 3, 1) := by decide +kernel
theorem dX0_get_10 : decode cX0_get 10 = .ok (.iadd, 1) := by decide +kernel
theorem dX0_get_11 : decode cX0_get 11 = .ok (.istore 4, 2) := by decide +kernel
theorem dX0_get_13 : decode cX0_get 13 = .ok (.iload_n 3, 1) := by decide +kernel
theorem dX0_get_14 : decode cX0_get 14 = .ok (.ifCond .lt 28, 3) := by decide +kernel
theorem dX0_get_17 : decode cX0_get 17 = .ok (.iload 4, 2) := by decide +kernel
theorem dX0_get_19 : decode cX0_get 19 = .ok (.ifCond .lt 23, 3) := by decide +kernel
theorem dX0_get_22 : decode cX0_get 22 = .ok (.iload 4, 2) := by decide +kernel
theorem dX0_get_24 : decode cX0_get 24 = .ok (.aload_n 0, 1) := by decide +kernel
theorem dX0_get_25 : decode cX0_get 25 = .ok (.getfield 11, 3) := by decide +kernel
theorem dX0_get_28 : decode cX0_get 28 = .ok (.arraylength, 1) := by decide +kernel
theorem dX0_get_29 : decode cX0_get 29 = .ok (.if_icmp .ge 13, 3) := by decide +kernel
theorem dX0_get_32 : decode cX0_get 32 = .ok (.aload_n 0, 1) := by decide +kernel
theorem dX0_get_33 : decode cX0_get 33 = .ok (.getfield 11, 3) := by decide +kernel
theorem dX0_get_36 : decode cX0_get 36 = .ok (.iload 4, 2) := by decide +kernel
theorem dX0_get_38 : decode cX0_get 38 = .ok (.iaload, 1) := by decide +kernel
theorem dX0_get_39 : decode cX0_get 39 = .ok (.goto 4, 3) := by decide +kernel
theorem dX0_get_42 : decode cX0_get 42 = .ok (.iconst (-1), 1) := by decide +kernel
theorem dX0_get_43 : decode cX0_get 43 = .ok (.ireturn, 1) := by decide +kernel
theorem dX0_set_0 : decode cX0_set 0 = .ok (.iload_n 1, 1) := by decide +kernel
theorem dX0_set_1 : decode cX0_set 1 = .ok (.bipush 9, 2) := by decide +kernel
theorem dX0_set_3 : decode cX0_set 3 = .ok (.imul, 1) := by decide +kernel
theorem dX0_set_4 : decode cX0_set 4 = .ok (.iload_n 2, 1) := by decide +kernel
theorem dX0_set_5 : decode cX0_set 5 = .ok (.iadd, 1) := by decide +kernel
theorem dX0_set_6 : decode cX0_set 6 = .ok (.bipush 101, 2) := by decide +kernel
theorem dX0_set_8 : decode cX0_set 8 = .ok (.imul, 1) := by decide +kernel
theorem dX0_set_9 : decode cX0_set 9 = .ok (.iload_n 3, 1) := by decide +kernel
theorem dX0_set_10 : decode cX0_set 10 = .ok (.iadd, 1) := by decide +kernel
theorem dX0_set_11 : decode cX0_set 11 = .ok (.istore 5, 2) := by decide +kernel
theorem dX0_set_13 : decode cX0_set 13 = .ok (.iload_n 3, 1) := by decide +kernel
theorem dX0_set_14 : decode cX0_set 14 = .ok (.ifCond .lt 27, 3) := by decide +kernel
theorem dX0_set_17 : decode cX0_set 17 = .ok (.iload 5, 2) := by decide +kernel
theorem dX0_set_19 : decode cX0_set 19 = .ok (.ifCond .lt 22, 3) := by decide +kernel
theorem dX0_set_22 : decode cX0_set 22 = .ok (.iload 5, 2) := by decide +kernel
theorem dX0_set_24 : decode cX0_set 24 = .ok (.aload_n 0, 1) := by decide +kernel
theorem dX0_set_25 : decode cX0_set 25 = .ok (.getfield 11, 3) := by decide +kernel
theorem dX0_set_28 : decode cX0_set 28 = .ok (.arraylength, 1) := by decide +kernel
theorem dX0_set_29 : decode cX0_set 29 = .ok (.if_icmp .ge 12, 3) := by decide +kernel
theorem dX0_set_32 : decode cX0_set 32 = .ok (.aload_n 0, 1) := by decide +kernel
theorem dX0_set_33 : decode cX0_set 33 = .ok (.getfield 11, 3) := by decide +kernel
theorem dX0_set_36 : decode cX0_set 36 = .ok (.iload 5, 2) := by decide +kernel
theorem dX0_set_38 : decode cX0_set 38 = .ok (.iload 4, 2) := by decide +kernel
theorem dX0_set_40 : decode cX0_set 40 = .ok (.iastore, 1) := by decide +kernel
theorem dX0_set_41 : decode cX0_set 41 = .ok (.return_, 1) := by decide +kernel
theorem dX1_init_0 : decode cX1_init 0 = .ok (.aload_n 0, 1) := by decide +kernel
theorem dX1_init_1 : decode cX1_init 1 = .ok (.invokespecial 3, 3) := by decide +kernel
theorem dX1_init_4 : decode cX1_init 4 = .ok (.aload_n 0, 1) := by decide +kernel
theorem dX1_init_5 : decode cX1_init 5 = .ok (.iconst 4, 1) := by decide +kernel
theorem dX1_init_6 : decode cX1_init 6 = .ok (.anewarray 9, 3) := by decide +kernel
theorem dX1_init_9 : decode cX1_init 9 = .ok (.dup, 1) := by decide +kernel
theorem dX1_init_10 : decode cX1_init 10 = .ok (.iconst 0, 1) := by decide +kernel
theorem dX1_init_11 : decode cX1_init 11 = .ok (.new 9, 3) := by decide +kernel
theorem dX1_init_14 : decode cX1_init 14 = .ok (.dup, 1) := by decide +kernel
theorem dX1_init_15 : decode cX1_init 15 = .ok (.invokespecial 11, 3) := by decide +kernel
theorem dX1_init_18 : decode cX1_init 18 = .ok (.aastore, 1) := by decide +kernel
theorem dX1_init_19 : decode cX1_init 19 = .ok (.dup, 1) := by decide +kernel
theorem dX1_init_20 : decode cX1_init 20 = .ok (.iconst 1, 1) := by decide +kernel
theorem dX1_init_21 : decode cX1_init 21 = .ok (.new 9, 3) := by decide +kernel
theorem dX1_init_24 : decode cX1_init 24 = .ok (.dup, 1) := by decide +kernel
theorem dX1_init_25 : decode cX1_init 25 = .ok (.invokespecial 11, 3) := by decide +kernel
theorem dX1_init_28 : decode cX1_init 28 = .ok (.aastore, 1) := by decide +kernel
theorem dX1_init_29 : decode cX1_init 29 = .ok (.dup, 1) := by decide +kernel
theorem dX1_init_30 : decode cX1_init 30 = .ok (.iconst 2, 1) := by decide +kernel
theorem dX1_init_31 : decode cX1_init 31 = .ok (.new 9, 3) := by decide +kernel
theorem dX1_init_34 : decode cX1_init 34 = .ok (.dup, 1) := by decide +kernel
theorem dX1_init_35 : decode cX1_init 35 = .ok (.invokespecial 11, 3) := by decide +kernel
theorem dX1_init_38 : decode cX1_init 38 = .ok (.aastore, 1) := by decide +kernel
theorem dX1_init_39 : decode cX1_init 39 = .ok (.dup, 1) := by decide +kernel
theorem dX1_init_40 : decode cX1_init 40 = .ok (.iconst 3, 1) := by decide +kernel
theorem dX1_init_41 : decode cX1_init 41 = .ok (.new 9, 3) := by decide +kernel
theorem dX1_init_44 : decode cX1_init 44 = .ok (.dup, 1) := by decide +kernel
theorem dX1_init_45 : decode cX1_init 45 = .ok (.invokespecial 11, 3) := by decide +kernel
theorem dX1_init_48 : decode cX1_init 48 = .ok (.aastore, 1) := by decide +kernel
theorem dX1_init_49 : decode cX1_init 49 = .ok (.putfield 12, 3) := by decide +kernel
theorem dX1_init_52 : decode cX1_init 52 = .ok (.aload_n 0, 1) := by decide +kernel
theorem dX1_init_53 : decode cX1_init 53 = .ok (.iconst 0, 1) := by decide +kernel
theorem dX1_init_54 : decode cX1_init 54 = .ok (.putfield 18, 3) := by decide +kernel
theorem dX1_init_57 : decode cX1_init 57 = .ok (.aload_n 0, 1) := by decide +kernel
theorem dX1_init_58 : decode cX1_init 58 = .ok (.iconst 0, 1) := by decide +kernel
theorem dX1_init_59 : decode cX1_init 59 = .ok (.putfield 22, 3) := by decide +kernel
theorem dX1_init_62 : decode cX1_init 62 = .ok (.return_, 1) := by decide +kernel
theorem dX1_savedCount_0 : decode cX1_savedCount 0 = .ok (.aload_n 0, 1) := by decide +kernel
theorem dX1_savedCount_1 : decode cX1_savedCount 1 = .ok (.getfield 22, 3) := by decide +kernel
theorem dX1_savedCount_4 : decode cX1_savedCount 4 = .ok (.ireturn, 1) := by decide +kernel
theorem dX1_save_0 : decode cX1_save 0 = .ok (.aload_n 0, 1) := by decide +kernel
theorem dX1_save_1 : decode cX1_save 1 = .ok (.aload_n 0, 1) := by decide +kernel
theorem dX1_save_2 : decode cX1_save 2 = .ok (.getfield 18, 3) := by decide +kernel
theorem dX1_save_5 : decode cX1_save 5 = .ok (.invokevirtual 25, 3) := by decide +kernel
theorem dX1_save_8 : decode cX1_save 8 = .ok (.aload_n 1, 1) := by decide +kernel
theorem dX1_save_9 : decode cX1_save 9 = .ok (.invokevirtual 29, 3) := by decide +kernel
theorem dX1_save_12 : decode cX1_save 12 = .ok (.aload_n 0, 1) := by decide +kernel
theorem dX1_save_13 : decode cX1_save 13 = .ok (.aload_n 0, 1) := by decide +kernel
theorem dX1_save_14 : decode cX1_save 14 = .ok (.getfield 18, 3) := by decide +kernel
theorem dX1_save_17 : decode cX1_save 17 = .ok (.iconst 1, 1) := by decide +kernel
theorem dX1_save_18 : decode cX1_save 18 = .ok (.iadd, 1) := by decide +kernel
theorem dX1_save_19 : decode cX1_save 19 = .ok (.iconst 4, 1) := by decide +kernel
theorem dX1_save_20 : decode cX1_save 20 = .ok (.if_icmp .ge 12, 3) := by decide +kernel
theorem dX1_save_23 : decode cX1_save 23 = .ok (.aload_n 0, 1) := by decide +kernel
theorem dX1_save_24 : decode cX1_save 24 = .ok (.getfield 18, 3) := by decide +kernel
theorem dX1_save_27 : decode cX1_save 27 = .ok (.iconst 1, 1) := by decide +kernel
theorem dX1_save_28 : decode cX1_save 28 = .ok (.iadd, 1) := by decide +kernel
theorem dX1_save_29 : decode cX1_save 29 = .ok (.goto 4, 3) := by decide +kernel
theorem dX1_save_32 : decode cX1_save 32 = .ok (.iconst 0, 1) := by decide +kernel
theorem dX1_save_33 : decode cX1_save 33 = .ok (.putfield 18, 3) := by decide +kernel
theorem dX1_save_36 : decode cX1_save 36 = .ok (.aload_n 0, 1) := by decide +kernel
theorem dX1_save_37 : decode cX1_save 37 = .ok (.aload_n 0, 1) := by decide +kernel
theorem dX1_save_38 : decode cX1_save 38 = .ok (.getfield 22, 3) := by decide +kernel
theorem dX1_save_41 : decode cX1_save 41 = .ok (.iconst 1, 1) := by decide +kernel
theorem dX1_save_42 : decode cX1_save 42 = .ok (.iadd, 1) := by decide +kernel
theorem dX1_save_43 : decode cX1_save 43 = .ok (.iconst 4, 1) := by decide +kernel
theorem dX1_save_44 : decode cX1_save 44 = .ok (.invokestatic 33, 3) := by decide +kernel
theorem dX1_save_47 : decode cX1_save 47 = .ok (.putfield 22, 3) := by decide +kernel
theorem dX1_save_50 : decode cX1_save 50 = .ok (.return_, 1) := by decide +kernel
theorem dX1_restore_0 : decode cX1_restore 0 = .ok (.aload_n 0, 1) := by decide +kernel
theorem dX1_restore_1 : decode cX1_restore 1 = .ok (.aload_n 0, 1) := by decide +kernel
theorem dX1_restore_2 : decode cX1_restore 2 = .ok (.getfield 18, 3) := by decide +kernel
theorem dX1_restore_5 : decode cX1_restore 5 = .ok (.ifCond .le 12, 3) := by decide +kernel
theorem dX1_restore_8 : decode cX1_restore 8 = .ok (.aload_n 0, 1) := by decide +kernel
theorem dX1_restore_9 : decode cX1_restore 9 = .ok (.getfield 18, 3) := by decide +kernel
theorem dX1_restore_12 : decode cX1_restore 12 = .ok (.iconst 1, 1) := by decide +kernel
theorem dX1_restore_13 : decode cX1_restore 13 = .ok (.isub, 1) := by decide +kernel
theorem dX1_restore_14 : decode cX1_restore 14 = .ok (.goto 4, 3) := by decide +kernel
theorem dX1_restore_17 : decode cX1_restore 17 = .ok (.iconst 3, 1) := by decide +kernel
theorem dX1_restore_18 : decode cX1_restore 18 = .ok (.putfield 18, 3) := by decide +kernel
theorem dX1_restore_21 : decode cX1_restore 21 = .ok (.aload_n 1, 1) := by decide +kernel
theorem dX1_restore_22 : decode cX1_restore 22 = .ok (.aload_n 0, 1) := by decide +kernel
theorem dX1_restore_23 : decode cX1_restore 23 = .ok (.aload_n 0, 1) := by decide +kernel
theorem dX1_restore_24 : decode cX1_restore 24 = .ok (.getfield 18, 3) := by decide +kernel
theorem dX1_restore_27 : decode cX1_restore 27 = .ok (.invokevirtual 25, 3) := by decide +kernel
theorem dX1_restore_30 : decode cX1_restore 30 = .ok (.invokevirtual 29, 3) := by decide +kernel
theorem dX1_restore_33 : decode cX1_restore 33 = .ok (.aload_n 0, 1) := by decide +kernel
theorem dX1_restore_34 : decode cX1_restore 34 = .ok (.aload_n 0, 1) := by decide +kernel
theorem dX1_restore_35 : decode cX1_restore 35 = .ok (.getfield 22, 3) := by decide +kernel
theorem dX1_restore_38 : decode cX1_restore 38 = .ok (.iconst 1, 1) := by decide +kernel
theorem dX1_restore_39 : decode cX1_restore 39 = .ok (.isub, 1) := by decide +kernel
theorem dX1_restore_40 : decode cX1_restore 40 = .ok (.iconst 0, 1) := by decide +kernel
theorem dX1_restore_41 : decode cX1_restore 41 = .ok (.invokestatic 39, 3) := by decide +kernel
theorem dX1_restore_44 : decode cX1_restore 44 = .ok (.putfield 22, 3) := by decide +kernel
theorem dX1_restore_47 : decode cX1_restore 47 = .ok (.return_, 1) := by decide +kernel
theorem dX1_slotAt_0 : decode cX1_slotAt 0 = .ok (.aload_n 0, 1) := by decide +kernel
theorem dX1_slotAt_1 : decode cX1_slotAt 1 = .ok (.getfield 12, 3) := by decide +kernel
theorem dX1_slotAt_4 : decode cX1_slotAt 4 = .ok (.iload_n 1, 1) := by decide +kernel
theorem dX1_slotAt_5 : decode cX1_slotAt 5 = .ok (.ifCond .lt 16, 3) := by decide +kernel
theorem dX1_slotAt_8 : decode cX1_slotAt 8 = .ok (.iload_n 1, 1) := by decide +kernel
theorem dX1_slotAt_9 : decode cX1_slotAt 9 = .ok (.aload_n 0, 1) := by decide +kernel
theorem dX1_slotAt_10 : decode cX1_slotAt 10 = .ok (.getfield 12, 3) := by decide +kernel
theorem dX1_slotAt_13 : decode cX1_slotAt 13 = .ok (.arraylength, 1) := by decide +kernel
theorem dX1_slotAt_14 : decode cX1_slotAt 14 = .ok (.if_icmp .ge 7, 3) := by decide +kernel
theorem dX1_slotAt_17 : decode cX1_slotAt 17 = .ok (.iload_n 1, 1) := by decide +kernel
theorem dX1_slotAt_18 : decode cX1_slotAt 18 = .ok (.goto 4, 3) := by decide +kernel
theorem dX1_slotAt_21 : decode cX1_slotAt 21 = .ok (.iconst 0, 1) := by decide +kernel
theorem dX1_slotAt_22 : decode cX1_slotAt 22 = .ok (.aaload, 1) := by decide +kernel
theorem dX1_slotAt_23 : decode cX1_slotAt 23 = .ok (.areturn, 1) := by decide +kernel
theorem dX2_init_0 : decode cX2_init 0 = .ok (.aload_n 0, 1) := by decide +kernel
theorem dX2_init_1 : decode cX2_init 1 = .ok (.invokespecial 3, 3) := by decide +kernel
theorem dX2_init_4 : decode cX2_init 4 = .ok (.aload_n 0, 1) := by decide +kernel
theorem dX2_init_5 : decode cX2_init 5 = .ok (.new 9, 3) := by decide +kernel
theorem dX2_init_8 : decode cX2_init 8 = .ok (.dup, 1) := by decide +kernel
theorem dX2_init_9 : decode cX2_init 9 = .ok (.bipush 101, 2) := by decide +kernel
theorem dX2_init_11 : decode cX2_init 11 = .ok (.invokespecial 11, 3) := by decide +kernel
theorem dX2_init_14 : decode cX2_init 14 = .ok (.putfield 14, 3) := by decide +kernel
theorem dX2_init_17 : decode cX2_init 17 = .ok (.aload_n 0, 1) := by decide +kernel
theorem dX2_init_18 : decode cX2_init 18 = .ok (.new 9, 3) := by decide +kernel
theorem dX2_init_21 : decode cX2_init 21 = .ok (.dup, 1) := by decide +kernel
theorem dX2_init_22 : decode cX2_init 22 = .ok (.bipush 101, 2) := by decide +kernel
theorem dX2_init_24 : decode cX2_init 24 = .ok (.invokespecial 11, 3) := by decide +kernel
theorem dX2_init_27 : decode cX2_init 27 = .ok (.putfield 20, 3) := by decide +kernel
theorem dX2_init_30 : decode cX2_init 30 = .ok (.aload_n 0, 1) := by decide +kernel
theorem dX2_init_31 : decode cX2_init 31 = .ok (.new 9, 3) := by decide +kernel
theorem dX2_init_34 : decode cX2_init 34 = .ok (.dup, 1) := by decide +kernel
theorem dX2_init_35 : decode cX2_init 35 = .ok (.bipush 101, 2) := by decide +kernel
theorem dX2_init_37 : decode cX2_init 37 = .ok (.invokespecial 11, 3) := by decide +kernel
theorem dX2_init_40 : decode cX2_init 40 = .ok (.putfield 23, 3) := by decide +kernel
theorem dX2_init_43 : decode cX2_init 43 = .ok (.aload_n 0, 1) := by decide +kernel
theorem dX2_init_44 : decode cX2_init 44 = .ok (.new 26, 3) := by decide +kernel
theorem dX2_init_47 : decode cX2_init 47 = .ok (.dup, 1) := by decide +kernel
theorem dX2_init_48 : decode cX2_init 48 = .ok (.invokespecial 28, 3) := by decide +kernel
theorem dX2_init_51 : decode cX2_init 51 = .ok (.putfield 29, 3) := by decide +kernel
theorem dX2_init_54 : decode cX2_init 54 = .ok (.aload_n 0, 1) := by decide +kernel
theorem dX2_init_55 : decode cX2_init 55 = .ok (.aload_n 1, 1) := by decide +kernel
theorem dX2_init_56 : decode cX2_init 56 = .ok (.putfield 33, 3) := by decide +kernel
theorem dX2_init_59 : decode cX2_init 59 = .ok (.return_, 1) := by decide +kernel
theorem dX2_update_0 : decode cX2_update 0 = .ok (.aload_n 0, 1) := by decide +kernel
theorem dX2_update_1 : decode cX2_update 1 = .ok (.getfield 33, 3) := by decide +kernel
theorem dX2_update_4 : decode cX2_update 4 = .ok (.invokevirtual 37, 3) := by decide +kernel
theorem dX2_update_7 : decode cX2_update 7 = .ok (.istore_n 1, 1) := by decide +kernel
theorem dX2_update_8 : decode cX2_update 8 = .ok (.iload_n 1, 1) := by decide +kernel
theorem dX2_update_9 : decode cX2_update 9 = .ok (.ifCond .lt 39, 3) := by decide +kernel
theorem dX2_update_12 : decode cX2_update 12 = .ok (.aload_n 0, 1) := by decide +kernel
theorem dX2_update_13 : decode cX2_update 13 = .ok (.iload_n 1, 1) := by decide +kernel
theorem dX2_update_14 : decode cX2_update 14 = .ok (.invokevirtual 43, 3) := by decide +kernel
theorem dX2_update_17 : decode cX2_update 17 = .ok (.aload_n 0, 1) := by decide +kernel
theorem dX2_update_18 : decode cX2_update 18 = .ok (.iload_n 1, 1) := by decide +kernel
theorem dX2_update_19 : decode cX2_update 19 = .ok (.invokevirtual 46, 3) := by decide +kernel
theorem dX2_update_22 : decode cX2_update 22 = .ok (.iconst 0, 1) := by decide +kernel
theorem dX2_update_23 : decode cX2_update 23 = .ok (.istore_n 2, 1) := by decide +kernel
theorem dX2_update_24 : decode cX2_update 24 = .ok (.iload_n 2, 1) := by decide +kernel
theorem dX2_update_25 : decode cX2_update 25 = .ok (.bipush 6, 2) := by decide +kernel
theorem dX2_update_27 : decode cX2_update 27 = .ok (.if_icmp .ge 15, 3) := by decide +kernel
theorem dX2_update_30 : decode cX2_update 30 = .ok (.aload_n 0, 1) := by decide +kernel
theorem dX2_update_31 : decode cX2_update 31 = .ok (.iload_n 2, 1) := by decide +kernel
theorem dX2_update_32 : decode cX2_update 32 = .ok (.iload_n 1, 1) := by decide +kernel
theorem dX2_update_33 : decode cX2_update 33 = .ok (.invokevirtual 49, 3) := by decide +kernel
theorem dX2_update_36 : decode cX2_update 36 = .ok (.iinc 2 1, 3) := by decide +kernel
theorem dX2_update_39 : decode cX2_update 39 = .ok (.goto (-15), 3) := by decide +kernel
theorem dX2_update_42 : decode cX2_update 42 = .ok (.iinc 1 (-1), 3) := by decide +kernel
theorem dX2_update_45 : decode cX2_update 45 = .ok (.goto (-37), 3) := by decide +kernel
theorem dX2_update_48 : decode cX2_update 48 = .ok (.return_, 1) := by decide +kernel
theorem dX2_islandEnd_0 : decode cX2_islandEnd 0 = .ok (.aload_n 0, 1) := by decide +kernel
theorem dX2_islandEnd_1 : decode cX2_islandEnd 1 = .ok (.getfield 29, 3) := by decide +kernel
theorem dX2_islandEnd_4 : decode cX2_islandEnd 4 = .ok (.iload_n 1, 1) := by decide +kernel
theorem dX2_islandEnd_5 : decode cX2_islandEnd 5 = .ok (.iconst 0, 1) := by decide +kernel
theorem dX2_islandEnd_6 : decode cX2_islandEnd 6 = .ok (.iload_n 2, 1) := by decide +kernel
theorem dX2_islandEnd_7 : decode cX2_islandEnd 7 = .ok (.invokevirtual 53, 3) := by decide +kernel
theorem dX2_islandEnd_10 : decode cX2_islandEnd 10 = .ok (.ireturn, 1) := by decide +kernel
theorem dX2_firstRule_0 : decode cX2_firstRule 0 = .ok (.aload_n 0, 1) := by decide +kernel
theorem dX2_firstRule_1 : decode cX2_firstRule 1 = .ok (.getfield 23, 3) := by decide +kernel
theorem dX2_firstRule_4 : decode cX2_firstRule 4 = .ok (.iload_n 1, 1) := by decide +kernel
theorem dX2_firstRule_5 : decode cX2_firstRule 5 = .ok (.invokevirtual 57, 3) := by decide +kernel
theorem dX2_firstRule_8 : decode cX2_firstRule 8 = .ok (.ireturn, 1) := by decide +kernel
theorem dX2_restMatches_0 : decode cX2_restMatches 0 = .ok (.aload_n 0, 1) := by decide +kernel
theorem dX2_restMatches_1 : decode cX2_restMatches 1 = .ok (.getfield 29, 3) := by decide +kernel
theorem dX2_restMatches_4 : decode cX2_restMatches 4 = .ok (.iload_n 1, 1) := by decide +kernel
theorem dX2_restMatches_5 : decode cX2_restMatches 5 = .ok (.iload_n 2, 1) := by decide +kernel
theorem dX2_restMatches_6 : decode cX2_restMatches 6 = .ok (.iload_n 3, 1) := by decide +kernel
theorem dX2_restMatches_7 : decode cX2_restMatches 7 = .ok (.invokevirtual 53, 3) := by decide +kernel
theorem dX2_restMatches_10 : decode cX2_restMatches 10 = .ok (.iconst (-1), 1) := by decide +kernel
theorem dX2_restMatches_11 : decode cX2_restMatches 11 = .ok (.if_icmp .eq 7, 3) := by decide +kernel
theorem dX2_restMatches_14 : decode cX2_restMatches 14 = .ok (.iconst 1, 1) := by decide +kernel
theorem dX2_restMatches_15 : decode cX2_restMatches 15 = .ok (.goto 4, 3) := by decide +kernel
theorem dX2_restMatches_18 : decode cX2_restMatches 18 = .ok (.iconst 0, 1) := by decide +kernel
theorem dX2_restMatches_19 : decode cX2_restMatches 19 = .ok (.ireturn, 1) := by decide +kernel
theorem dX2_elementEnd_0 : decode cX2_elementEnd 0 = .ok (.iload_n 1, 1) := by decide +kernel
theorem dX2_elementEnd_1 : decode cX2_elementEnd 1 = .ok (.bipush 35, 2) := by decide +kernel
theorem dX2_elementEnd_3 : decode cX2_elementEnd 3 = .ok (.if_icmp .ne 12, 3) := by decide +kernel
theorem dX2_elementEnd_6 : decode cX2_elementEnd 6 = .ok (.aload_n 0, 1) := by decide +kernel
theorem dX2_elementEnd_7 : decode cX2_elementEnd 7 = .ok (.getfield 14, 3) := by decide +kernel
theorem dX2_elementEnd_10 : decode cX2_elementEnd 10 = .ok (.iload_n 2, 1) := by decide +kernel
theorem dX2_elementEnd_11 : decode cX2_elementEnd 11 = .ok (.invokevirtual 57, 3) := by decide +kernel
theorem dX2_elementEnd_14 : decode cX2_elementEnd 14 = .ok (.ireturn, 1) := by decide +kernel
theorem dX2_elementEnd_15 : decode cX2_elementEnd 15 = .ok (.iload_n 1, 1) := by decide +kernel
theorem dX2_elementEnd_16 : decode cX2_elementEnd 16 = .ok (.bipush 64, 2) := by decide +kernel
theorem dX2_elementEnd_18 : decode cX2_elementEnd 18 = .ok (.if_icmp .ne 12, 3) := by decide +kernel
theorem dX2_elementEnd_21 : decode cX2_elementEnd 21 = .ok (.aload_n 0, 1) := by decide +kernel
theorem dX2_elementEnd_22 : decode cX2_elementEnd 22 = .ok (.getfield 20, 3) := by decide +kernel
theorem dX2_elementEnd_25 : decode cX2_elementEnd 25 = .ok (.iload_n 2, 1) := by decide +kernel
theorem dX2_elementEnd_26 : decode cX2_elementEnd 26 = .ok (.invokevirtual 57, 3) := by decide +kernel
theorem dX2_elementEnd_29 : decode cX2_elementEnd 29 = .ok (.ireturn, 1) := by decide +kernel
theorem dX2_elementEnd_30 : decode cX2_elementEnd 30 = .ok (.iload_n 1, 1) := by decide +kernel
theorem dX2_elementEnd_31 : decode cX2_elementEnd 31 = .ok (.invokestatic 60, 3) := by decide +kernel
theorem dX2_elementEnd_34 : decode cX2_elementEnd 34 = .ok (.ifCond .eq 17, 3) := by decide +kernel
theorem dX2_elementEnd_37 : decode cX2_elementEnd 37 = .ok (.aload_n 0, 1) := by decide +kernel
theorem dX2_elementEnd_38 : decode cX2_elementEnd 38 = .ok (.getfield 29, 3) := by decide +kernel
theorem dX2_elementEnd_41 : decode cX2_elementEnd 41 = .ok (.iload_n 1, 1) := by decide +kernel
theorem dX2_elementEnd_42 : decode cX2_elementEnd 42 = .ok (.bipush 65, 2) := by decide +kernel
theorem dX2_elementEnd_44 : decode cX2_elementEnd 44 = .ok (.isub, 1) := by decide +kernel
theorem dX2_elementEnd_45 : decode cX2_elementEnd 45 = .ok (.iconst 0, 1) := by decide +kernel
theorem dX2_elementEnd_46 : decode cX2_elementEnd 46 = .ok (.iload_n 2, 1) := by decide +kernel
theorem dX2_elementEnd_47 : decode cX2_elementEnd 47 = .ok (.invokevirtual 53, 3) := by decide +kernel
theorem dX2_elementEnd_50 : decode cX2_elementEnd 50 = .ok (.ireturn, 1) := by decide +kernel
theorem dX2_elementEnd_51 : decode cX2_elementEnd 51 = .ok (.aload_n 0, 1) := by decide +kernel
theorem dX2_elementEnd_52 : decode cX2_elementEnd 52 = .ok (.getfield 33, 3) := by decide +kernel
theorem dX2_elementEnd_55 : decode cX2_elementEnd 55 = .ok (.iload_n 2, 1) := by decide +kernel
theorem dX2_elementEnd_56 : decode cX2_elementEnd 56 = .ok (.invokevirtual 64, 3) := by decide +kernel
theorem dX2_elementEnd_59 : decode cX2_elementEnd 59 = .ok (.iload_n 1, 1) := by decide +kernel
theorem dX2_elementEnd_60 : decode cX2_elementEnd 60 = .ok (.if_icmp .ne 9, 3) := by decide +kernel
theorem dX2_elementEnd_63 : decode cX2_elementEnd 63 = .ok (.iload_n 2, 1) := by decide +kernel
theorem dX2_elementEnd_64 : decode cX2_elementEnd 64 = .ok (.iconst 1, 1) := by decide +kernel
theorem dX2_elementEnd_65 : decode cX2_elementEnd 65 = .ok (.iadd, 1) := by decide +kernel
theorem dX2_elementEnd_66 : decode cX2_elementEnd 66 = .ok (.goto 4, 3) := by decide +kernel
theorem dX2_elementEnd_69 : decode cX2_elementEnd 69 = .ok (.iconst (-1), 1) := by decide +kernel
theorem dX2_elementEnd_70 : decode cX2_elementEnd 70 = .ok (.ireturn, 1) := by decide +kernel
theorem dX2_markRuns_0 : decode cX2_markRuns 0 = .ok (.aload_n 0, 1) := by decide +kernel
theorem dX2_markRuns_1 : decode cX2_markRuns 1 = .ok (.getfield 33, 3) := by decide +kernel
theorem dX2_markRuns_4 : decode cX2_markRuns 4 = .ok (.iload_n 1, 1) := by decide +kernel
theorem dX2_markRuns_5 : decode cX2_markRuns 5 = .ok (.invokevirtual 64, 3) := by decide +kernel
theorem dX2_markRuns_8 : decode cX2_markRuns 8 = .ok (.istore_n 2, 1) := by decide +kernel
theorem dX2_markRuns_9 : decode cX2_markRuns 9 = .ok (.aload_n 0, 1) := by decide +kernel
theorem dX2_markRuns_10 : decode cX2_markRuns 10 = .ok (.getfield 14, 3) := by decide +kernel
theorem dX2_markRuns_13 : decode cX2_markRuns 13 = .ok (.iload_n 1, 1) := by decide +kernel
theorem dX2_markRuns_14 : decode cX2_markRuns 14 = .ok (.iload_n 2, 1) := by decide +kernel
theorem dX2_markRuns_15 : decode cX2_markRuns 15 = .ok (.invokestatic 67, 3) := by decide +kernel
theorem dX2_markRuns_18 : decode cX2_markRuns 18 = .ok (.ifCond .eq 14, 3) := by decide +kernel
theorem dX2_markRuns_21 : decode cX2_markRuns 21 = .ok (.aload_n 0, 1) := by decide +kernel
theorem dX2_markRuns_22 : decode cX2_markRuns 22 = .ok (.getfield 14, 3) := by decide +kernel
theorem dX2_markRuns_25 : decode cX2_markRuns 25 = .ok (.iload_n 1, 1) := by decide +kernel
theorem dX2_markRuns_26 : decode cX2_markRuns 26 = .ok (.invokestatic 70, 3) := by decide +kernel
theorem dX2_markRuns_29 : decode cX2_markRuns 29 = .ok (.goto 4, 3) := by decide +kernel
theorem dX2_markRuns_32 : decode cX2_markRuns 32 = .ok (.iconst (-1), 1) := by decide +kernel
theorem dX2_markRuns_33 : decode cX2_markRuns 33 = .ok (.invokevirtual 74, 3) := by decide +kernel
theorem dX2_markRuns_36 : decode cX2_markRuns 36 = .ok (.aload_n 0, 1) := by decide +kernel
theorem dX2_markRuns_37 : decode cX2_markRuns 37 = .ok (.getfield 20, 3) := by decide +kernel
theorem dX2_markRuns_40 : decode cX2_markRuns 40 = .ok (.iload_n 1, 1) := by decide +kernel
theorem dX2_markRuns_41 : decode cX2_markRuns 41 = .ok (.iload_n 2, 1) := by decide +kernel
theorem dX2_markRuns_42 : decode cX2_markRuns 42 = .ok (.invokestatic 77, 3) := by decide +kernel
theorem dX2_markRuns_45 : decode cX2_markRuns 45 = .ok (.ifCond .eq 14, 3) := by decide +kernel
theorem dX2_markRuns_48 : decode cX2_markRuns 48 = .ok (.aload_n 0, 1) := by decide +kernel
theorem dX2_markRuns_49 : decode cX2_markRuns 49 = .ok (.getfield 20, 3) := by decide +kernel
theorem dX2_markRuns_52 : decode cX2_markRuns 52 = .ok (.iload_n 1, 1) := by decide +kernel
theorem dX2_markRuns_53 : decode cX2_markRuns 53 = .ok (.invokestatic 70, 3) := by decide +kernel
theorem dX2_markRuns_56 : decode cX2_markRuns 56 = .ok (.goto 4, 3) := by decide +kernel
theorem dX2_markRuns_59 : decode cX2_markRuns 59 = .ok (.iconst (-1), 1) := by decide +kernel
theorem dX2_markRuns_60 : decode cX2_markRuns 60 = .ok (.invokevirtual 74, 3) := by decide +kernel
theorem dX2_markRuns_63 : decode cX2_markRuns 63 = .ok (.return_, 1) := by decide +kernel
theorem dX2_runEnd_0 : decode cX2_runEnd 0 = .ok (.aload_n 0, 1) := by decide +kernel
theorem dX2_runEnd_1 : decode cX2_runEnd 1 = .ok (.iload_n 1, 1) := by decide +kernel
theorem dX2_runEnd_2 : decode cX2_runEnd 2 = .ok (.iconst 1, 1) := by decide +kernel
theorem dX2_runEnd_3 : decode cX2_runEnd 3 = .ok (.iadd, 1) := by decide +kernel
theorem dX2_runEnd_4 : decode cX2_runEnd 4 = .ok (.invokevirtual 57, 3) := by decide +kernel
theorem dX2_runEnd_7 : decode cX2_runEnd 7 = .ok (.istore_n 2, 1) := by decide +kernel
theorem dX2_runEnd_8 : decode cX2_runEnd 8 = .ok (.iload_n 2, 1) := by decide +kernel
theorem dX2_runEnd_9 : decode cX2_runEnd 9 = .ok (.iconst (-1), 1) := by decide +kernel
theorem dX2_runEnd_10 : decode cX2_runEnd 10 = .ok (.if_icmp .ne 9, 3) := by decide +kernel
theorem dX2_runEnd_13 : decode cX2_runEnd 13 = .ok (.iload_n 1, 1) := by decide +kernel
theorem dX2_runEnd_14 : decode cX2_runEnd 14 = .ok (.iconst 1, 1) := by decide +kernel
theorem dX2_runEnd_15 : decode cX2_runEnd 15 = .ok (.iadd, 1) := by decide +kernel
theorem dX2_runEnd_16 : decode cX2_runEnd 16 = .ok (.goto 4, 3) := by decide +kernel
theorem dX2_runEnd_19 : decode cX2_runEnd 19 = .ok (.iload_n 2, 1) := by decide +kernel
theorem dX2_runEnd_20 : decode cX2_runEnd 20 = .ok (.ireturn, 1) := by decide +kernel
theorem dX2_matchIslands_0 : decode cX2_matchIslands 0 = .ok (.aload_n 0, 1) := by decide +kernel
theorem dX2_matchIslands_1 : decode cX2_matchIslands 1 = .ok (.getfield 23, 3) := by decide +kernel
theorem dX2_matchIslands_4 : decode cX2_matchIslands 4 = .ok (.iload_n 1, 1) := by decide +kernel
theorem dX2_matchIslands_5 : decode cX2_matchIslands 5 = .ok (.iconst (-1), 1) := by decide +kernel
theorem dX2_matchIslands_6 : decode cX2_matchIslands 6 = .ok (.invokevirtual 74, 3) := by decide +kernel
theorem dX2_matchIslands_9 : decode cX2_matchIslands 9 = .ok (.iconst 5, 1) := by decide +kernel
theorem dX2_matchIslands_10 : decode cX2_matchIslands 10 = .ok (.istore_n 2, 1) := by decide +kernel
theorem dX2_matchIslands_11 : decode cX2_matchIslands 11 = .ok (.iload_n 2, 1) := by decide +kernel
theorem dX2_matchIslands_12 : decode cX2_matchIslands 12 = .ok (.ifCond .lt 75, 3) := by decide +kernel
theorem dX2_matchIslands_15 : decode cX2_matchIslands 15 = .ok (.iconst (-1), 1) := by decide +kernel
theorem dX2_matchIslands_16 : decode cX2_matchIslands 16 = .ok (.istore_n 3, 1) := by decide +kernel
theorem dX2_matchIslands_17 : decode cX2_matchIslands 17 = .ok (.aload_n 0, 1) := by decide +kernel
theorem dX2_matchIslands_18 : decode cX2_matchIslands 18 = .ok (.getfield 33, 3) := by decide +kernel
theorem dX2_matchIslands_21 : decode cX2_matchIslands 21 = .ok (.iload_n 2, 1) := by decide +kernel
theorem dX2_matchIslands_22 : decode cX2_matchIslands 22 = .ok (.invokevirtual 80, 3) := by decide +kernel
theorem dX2_matchIslands_25 : decode cX2_matchIslands 25 = .ok (.ifCond .le 31, 3) := by decide +kernel
theorem dX2_matchIslands_28 : decode cX2_matchIslands 28 = .ok (.aload_n 0, 1) := by decide +kernel
theorem dX2_matchIslands_29 : decode cX2_matchIslands 29 = .ok (.aload_n 0, 1) := by decide +kernel
theorem dX2_matchIslands_30 : decode cX2_matchIslands 30 = .ok (.getfield 33, 3) := by decide +kernel
theorem dX2_matchIslands_33 : decode cX2_matchIslands 33 = .ok (.iload_n 2, 1) := by decide +kernel
theorem dX2_matchIslands_34 : decode cX2_matchIslands 34 = .ok (.iconst 0, 1) := by decide +kernel
theorem dX2_matchIslands_35 : decode cX2_matchIslands 35 = .ok (.invokevirtual 83, 3) := by decide +kernel
theorem dX2_matchIslands_38 : decode cX2_matchIslands 38 = .ok (.iload_n 1, 1) := by decide +kernel
theorem dX2_matchIslands_39 : decode cX2_matchIslands 39 = .ok (.invokevirtual 87, 3) := by decide +kernel
theorem dX2_matchIslands_42 : decode cX2_matchIslands 42 = .ok (.istore 4, 2) := by decide +kernel
theorem dX2_matchIslands_44 : decode cX2_matchIslands 44 = .ok (.aload_n 0, 1) := by decide +kernel
theorem dX2_matchIslands_45 : decode cX2_matchIslands 45 = .ok (.getfield 29, 3) := by decide +kernel
theorem dX2_matchIslands_48 : decode cX2_matchIslands 48 = .ok (.iload_n 2, 1) := by decide +kernel
theorem dX2_matchIslands_49 : decode cX2_matchIslands 49 = .ok (.iconst 1, 1) := by decide +kernel
theorem dX2_matchIslands_50 : decode cX2_matchIslands 50 = .ok (.iload 4, 2) := by decide +kernel
theorem dX2_matchIslands_52 : decode cX2_matchIslands 52 = .ok (.invokevirtual 53, 3) := by decide +kernel
theorem dX2_matchIslands_55 : decode cX2_matchIslands 55 = .ok (.istore_n 3, 1) := by decide +kernel
theorem dX2_matchIslands_56 : decode cX2_matchIslands 56 = .ok (.aload_n 0, 1) := by decide +kernel
theorem dX2_matchIslands_57 : decode cX2_matchIslands 57 = .ok (.getfield 29, 3) := by decide +kernel
theorem dX2_matchIslands_60 : decode cX2_matchIslands 60 = .ok (.iload_n 2, 1) := by decide +kernel
theorem dX2_matchIslands_61 : decode cX2_matchIslands 61 = .ok (.iconst 0, 1) := by decide +kernel
theorem dX2_matchIslands_62 : decode cX2_matchIslands 62 = .ok (.iload_n 1, 1) := by decide +kernel
theorem dX2_matchIslands_63 : decode cX2_matchIslands 63 = .ok (.iload_n 3, 1) := by decide +kernel
theorem dX2_matchIslands_64 : decode cX2_matchIslands 64 = .ok (.invokevirtual 90, 3) := by decide +kernel
theorem dX2_matchIslands_67 : decode cX2_matchIslands 67 = .ok (.iload_n 3, 1) := by decide +kernel
theorem dX2_matchIslands_68 : decode cX2_matchIslands 68 = .ok (.iconst (-1), 1) := by decide +kernel
theorem dX2_matchIslands_69 : decode cX2_matchIslands 69 = .ok (.if_icmp .eq 12, 3) := by decide +kernel
theorem dX2_matchIslands_72 : decode cX2_matchIslands 72 = .ok (.aload_n 0, 1) := by decide +kernel
theorem dX2_matchIslands_73 : decode cX2_matchIslands 73 = .ok (.getfield 23, 3) := by decide +kernel
theorem dX2_matchIslands_76 : decode cX2_matchIslands 76 = .ok (.iload_n 1, 1) := by decide +kernel
theorem dX2_matchIslands_77 : decode cX2_matchIslands 77 = .ok (.iload_n 2, 1) := by decide +kernel
theorem dX2_matchIslands_78 : decode cX2_matchIslands 78 = .ok (.invokevirtual 74, 3) := by decide +kernel
theorem dX2_matchIslands_81 : decode cX2_matchIslands 81 = .ok (.iinc 2 (-1), 3) := by decide +kernel
theorem dX2_matchIslands_84 : decode cX2_matchIslands 84 = .ok (.goto (-73), 3) := by decide +kernel
theorem dX2_matchIslands_87 : decode cX2_matchIslands 87 = .ok (.return_, 1) := by decide +kernel
theorem dX2_matchRests_0 : decode cX2_matchRests 0 = .ok (.aload_n 0, 1) := by decide +kernel
theorem dX2_matchRests_1 : decode cX2_matchRests 1 = .ok (.getfield 33, 3) := by decide +kernel
theorem dX2_matchRests_4 : decode cX2_matchRests 4 = .ok (.iload_n 1, 1) := by decide +kernel
theorem dX2_matchRests_5 : decode cX2_matchRests 5 = .ok (.invokevirtual 80, 3) := by decide +kernel
theorem dX2_matchRests_8 : decode cX2_matchRests 8 = .ok (.istore_n 3, 1) := by decide +kernel
theorem dX2_matchRests_9 : decode cX2_matchRests 9 = .ok (.iload_n 3, 1) := by decide +kernel
theorem dX2_matchRests_10 : decode cX2_matchRests 10 = .ok (.ifCond .le 14, 3) := by decide +kernel
theorem dX2_matchRests_13 : decode cX2_matchRests 13 = .ok (.aload_n 0, 1) := by decide +kernel
theorem dX2_matchRests_14 : decode cX2_matchRests 14 = .ok (.getfield 29, 3) := by decide +kernel
theorem dX2_matchRests_17 : decode cX2_matchRests 17 = .ok (.iload_n 1, 1) := by decide +kernel
theorem dX2_matchRests_18 : decode cX2_matchRests 18 = .ok (.iload_n 3, 1) := by decide +kernel
theorem dX2_matchRests_19 : decode cX2_matchRests 19 = .ok (.iload_n 2, 1) := by decide +kernel
theorem dX2_matchRests_20 : decode cX2_matchRests 20 = .ok (.iload_n 2, 1) := by decide +kernel
theorem dX2_matchRests_21 : decode cX2_matchRests 21 = .ok (.invokevirtual 90, 3) := by decide +kernel
theorem dX2_matchRests_24 : decode cX2_matchRests 24 = .ok (.iload_n 3, 1) := by decide +kernel
theorem dX2_matchRests_25 : decode cX2_matchRests 25 = .ok (.iconst 1, 1) := by decide +kernel
theorem dX2_matchRests_26 : decode cX2_matchRests 26 = .ok (.isub, 1) := by decide +kernel
theorem dX2_matchRests_27 : decode cX2_matchRests 27 = .ok (.istore 4, 2) := by decide +kernel
theorem dX2_matchRests_29 : decode cX2_matchRests 29 = .ok (.iload 4, 2) := by decide +kernel
theorem dX2_matchRests_31 : decode cX2_matchRests 31 = .ok (.ifCond .le 73, 3) := by decide +kernel
theorem dX2_matchRests_34 : decode cX2_matchRests 34 = .ok (.aload_n 0, 1) := by decide +kernel
theorem dX2_matchRests_35 : decode cX2_matchRests 35 = .ok (.getfield 33, 3) := by decide +kernel
theorem dX2_matchRests_38 : decode cX2_matchRests 38 = .ok (.iload_n 1, 1) := by decide +kernel
theorem dX2_matchRests_39 : decode cX2_matchRests 39 = .ok (.iload 4, 2) := by decide +kernel
theorem dX2_matchRests_41 : decode cX2_matchRests 41 = .ok (.invokevirtual 83, 3) := by decide +kernel
theorem dX2_matchRests_44 : decode cX2_matchRests 44 = .ok (.istore 5, 2) := by decide +kernel
theorem dX2_matchRests_46 : decode cX2_matchRests 46 = .ok (.iload 5, 2) := by decide +kernel
theorem dX2_matchRests_48 : decode cX2_matchRests 48 = .ok (.bipush 126, 2) := by decide +kernel
theorem dX2_matchRests_50 : decode cX2_matchRests 50 = .ok (.if_icmp .ne 14, 3) := by decide +kernel
theorem dX2_matchRests_53 : decode cX2_matchRests 53 = .ok (.aload_n 0, 1) := by decide +kernel
theorem dX2_matchRests_54 : decode cX2_matchRests 54 = .ok (.iload_n 1, 1) := by decide +kernel
theorem dX2_matchRests_55 : decode cX2_matchRests 55 = .ok (.iload 4, 2) := by decide +kernel
theorem dX2_matchRests_57 : decode cX2_matchRests 57 = .ok (.iload_n 2, 1) := by decide +kernel
theorem dX2_matchRests_58 : decode cX2_matchRests 58 = .ok (.invokevirtual 93, 3) := by decide +kernel
theorem dX2_matchRests_61 : decode cX2_matchRests 61 = .ok (.goto 22, 3) := by decide +kernel
theorem dX2_matchRests_64 : decode cX2_matchRests 64 = .ok (.aload_n 0, 1) := by decide +kernel
theorem dX2_matchRests_65 : decode cX2_matchRests 65 = .ok (.getfield 29, 3) := by decide +kernel
theorem dX2_matchRests_68 : decode cX2_matchRests 68 = .ok (.iload_n 1, 1) := by decide +kernel
theorem dX2_matchRests_69 : decode cX2_matchRests 69 = .ok (.iload 4, 2) := by decide +kernel
theorem dX2_matchRests_71 : decode cX2_matchRests 71 = .ok (.iconst 1, 1) := by decide +kernel
theorem dX2_matchRests_72 : decode cX2_matchRests 72 = .ok (.iadd, 1) := by decide +kernel
theorem dX2_matchRests_73 : decode cX2_matchRests 73 = .ok (.aload_n 0, 1) := by decide +kernel
theorem dX2_matchRests_74 : decode cX2_matchRests 74 = .ok (.iload 5, 2) := by decide +kernel
theorem dX2_matchRests_76 : decode cX2_matchRests 76 = .ok (.iload_n 2, 1) := by decide +kernel
theorem dX2_matchRests_77 : decode cX2_matchRests 77 = .ok (.invokevirtual 87, 3) := by decide +kernel
theorem dX2_matchRests_80 : decode cX2_matchRests 80 = .ok (.invokevirtual 53, 3) := by decide +kernel
theorem dX2_matchRests_83 : decode cX2_matchRests 83 = .ok (.istore 6, 2) := by decide +kernel
theorem dX2_matchRests_85 : decode cX2_matchRests 85 = .ok (.aload_n 0, 1) := by decide +kernel
theorem dX2_matchRests_86 : decode cX2_matchRests 86 = .ok (.getfield 29, 3) := by decide +kernel
theorem dX2_matchRests_89 : decode cX2_matchRests 89 = .ok (.iload_n 1, 1) := by decide +kernel
theorem dX2_matchRests_90 : decode cX2_matchRests 90 = .ok (.iload 4, 2) := by decide +kernel
theorem dX2_matchRests_92 : decode cX2_matchRests 92 = .ok (.iload_n 2, 1) := by decide +kernel
theorem dX2_matchRests_93 : decode cX2_matchRests 93 = .ok (.iload 6, 2) := by decide +kernel
theorem dX2_matchRests_95 : decode cX2_matchRests 95 = .ok (.invokevirtual 90, 3) := by decide +kernel
theorem dX2_matchRests_98 : decode cX2_matchRests 98 = .ok (.iinc 4 (-1), 3) := by decide +kernel
theorem dX2_matchRests_101 : decode cX2_matchRests 101 = .ok (.goto (-72), 3) := by decide +kernel
theorem dX2_matchRests_104 : decode cX2_matchRests 104 = .ok (.return_, 1) := by decide +kernel
theorem dX2_waterRestEnd_0 : decode cX2_waterRestEnd 0 = .ok (.aload_n 0, 1) := by decide +kernel
theorem dX2_waterRestEnd_1 : decode cX2_waterRestEnd 1 = .ok (.getfield 29, 3) := by decide +kernel
theorem dX2_waterRestEnd_4 : decode cX2_waterRestEnd 4 = .ok (.iload_n 1, 1) := by decide +kernel
theorem dX2_waterRestEnd_5 : decode cX2_waterRestEnd 5 = .ok (.iload_n 2, 1) := by decide +kernel
theorem dX2_waterRestEnd_6 : decode cX2_waterRestEnd 6 = .ok (.iconst 1, 1) := by decide +kernel
theorem dX2_waterRestEnd_7 : decode cX2_waterRestEnd 7 = .ok (.iadd, 1) := by decide +kernel
theorem dX2_waterRestEnd_8 : decode cX2_waterRestEnd 8 = .ok (.iload_n 3, 1) := by decide +kernel
theorem dX2_waterRestEnd_9 : decode cX2_waterRestEnd 9 = .ok (.invokevirtual 53, 3) := by decide +kernel
theorem dX2_waterRestEnd_12 : decode cX2_waterRestEnd 12 = .ok (.istore 4, 2) := by decide +kernel
theorem dX2_waterRestEnd_14 : decode cX2_waterRestEnd 14 = .ok (.iload 4, 2) := by decide +kernel
theorem dX2_waterRestEnd_16 : decode cX2_waterRestEnd 16 = .ok (.iconst (-1), 1) := by decide +kernel
theorem dX2_waterRestEnd_17 : decode cX2_waterRestEnd 17 = .ok (.if_icmp .eq 6, 3) := by decide +kernel
theorem dX2_waterRestEnd_20 : decode cX2_waterRestEnd 20 = .ok (.iload 4, 2) := by decide +kernel
theorem dX2_waterRestEnd_22 : decode cX2_waterRestEnd 22 = .ok (.ireturn, 1) := by decide +kernel
theorem dX2_waterRestEnd_23 : decode cX2_waterRestEnd 23 = .ok (.aload_n 0, 1) := by decide +kernel
theorem dX2_waterRestEnd_24 : decode cX2_waterRestEnd 24 = .ok (.getfield 23, 3) := by decide +kernel
theorem dX2_waterRestEnd_27 : decode cX2_waterRestEnd 27 = .ok (.iload_n 3, 1) := by decide +kernel
theorem dX2_waterRestEnd_28 : decode cX2_waterRestEnd 28 = .ok (.invokevirtual 57, 3) := by decide +kernel
theorem dX2_waterRestEnd_31 : decode cX2_waterRestEnd 31 = .ok (.istore 5, 2) := by decide +kernel
theorem dX2_waterRestEnd_33 : decode cX2_waterRestEnd 33 = .ok (.iload 5, 2) := by decide +kernel
theorem dX2_waterRestEnd_35 : decode cX2_waterRestEnd 35 = .ok (.iconst (-1), 1) := by decide +kernel
theorem dX2_waterRestEnd_36 : decode cX2_waterRestEnd 36 = .ok (.if_icmp .eq 24, 3) := by decide +kernel
theorem dX2_waterRestEnd_39 : decode cX2_waterRestEnd 39 = .ok (.aload_n 0, 1) := by decide +kernel
theorem dX2_waterRestEnd_40 : decode cX2_waterRestEnd 40 = .ok (.getfield 29, 3) := by decide +kernel
theorem dX2_waterRestEnd_43 : decode cX2_waterRestEnd 43 = .ok (.iload_n 1, 1) := by decide +kernel
theorem dX2_waterRestEnd_44 : decode cX2_waterRestEnd 44 = .ok (.iload_n 2, 1) := by decide +kernel
theorem dX2_waterRestEnd_45 : decode cX2_waterRestEnd 45 = .ok (.aload_n 0, 1) := by decide +kernel
theorem dX2_waterRestEnd_46 : decode cX2_waterRestEnd 46 = .ok (.getfield 29, 3) := by decide +kernel
theorem dX2_waterRestEnd_49 : decode cX2_waterRestEnd 49 = .ok (.iload 5, 2) := by decide +kernel
theorem dX2_waterRestEnd_51 : decode cX2_waterRestEnd 51 = .ok (.iconst 0, 1) := by decide +kernel
theorem dX2_waterRestEnd_52 : decode cX2_waterRestEnd 52 = .ok (.iload_n 3, 1) := by decide +kernel
theorem dX2_waterRestEnd_53 : decode cX2_waterRestEnd 53 = .ok (.invokevirtual 53, 3) := by decide +kernel
theorem dX2_waterRestEnd_56 : decode cX2_waterRestEnd 56 = .ok (.invokevirtual 53, 3) := by decide +kernel
theorem dX2_waterRestEnd_59 : decode cX2_waterRestEnd 59 = .ok (.ireturn, 1) := by decide +kernel
theorem dX2_waterRestEnd_60 : decode cX2_waterRestEnd 60 = .ok (.aload_n 0, 1) := by decide +kernel
theorem dX2_waterRestEnd_61 : decode cX2_waterRestEnd 61 = .ok (.getfield 33, 3) := by decide +kernel
theorem dX2_waterRestEnd_64 : decode cX2_waterRestEnd 64 = .ok (.iload_n 3, 1) := by decide +kernel
theorem dX2_waterRestEnd_65 : decode cX2_waterRestEnd 65 = .ok (.invokevirtual 64, 3) := by decide +kernel
theorem dX2_waterRestEnd_68 : decode cX2_waterRestEnd 68 = .ok (.istore 6, 2) := by decide +kernel
theorem dX2_waterRestEnd_70 : decode cX2_waterRestEnd 70 = .ok (.iload 6, 2) := by decide +kernel
theorem dX2_waterRestEnd_72 : decode cX2_waterRestEnd 72 = .ok (.iconst (-1), 1) := by decide +kernel
theorem dX2_waterRestEnd_73 : decode cX2_waterRestEnd 73 = .ok (.if_icmp .eq 16, 3) := by decide +kernel
theorem dX2_waterRestEnd_76 : decode cX2_waterRestEnd 76 = .ok (.iload 6, 2) := by decide +kernel
theorem dX2_waterRestEnd_78 : decode cX2_waterRestEnd 78 = .ok (.aload_n 0, 1) := by decide +kernel
theorem dX2_waterRestEnd_79 : decode cX2_waterRestEnd 79 = .ok (.getfield 33, 3) := by decide +kernel
theorem dX2_waterRestEnd_82 : decode cX2_waterRestEnd 82 = .ok (.iload_n 1, 1) := by decide +kernel
theorem dX2_waterRestEnd_83 : decode cX2_waterRestEnd 83 = .ok (.invokevirtual 96, 3) := by decide +kernel
theorem dX2_waterRestEnd_86 : decode cX2_waterRestEnd 86 = .ok (.if_icmp .ne 5, 3) := by decide +kernel
theorem dX2_waterRestEnd_89 : decode cX2_waterRestEnd 89 = .ok (.iconst (-1), 1) := by decide +kernel
theorem dX2_waterRestEnd_90 : decode cX2_waterRestEnd 90 = .ok (.ireturn, 1) := by decide +kernel
theorem dX2_waterRestEnd_91 : decode cX2_waterRestEnd 91 = .ok (.aload_n 0, 1) := by decide +kernel
theorem dX2_waterRestEnd_92 : decode cX2_waterRestEnd 92 = .ok (.getfield 29, 3) := by decide +kernel
theorem dX2_waterRestEnd_95 : decode cX2_waterRestEnd 95 = .ok (.iload_n 1, 1) := by decide +kernel
theorem dX2_waterRestEnd_96 : decode cX2_waterRestEnd 96 = .ok (.iload_n 2, 1) := by decide +kernel
theorem dX2_waterRestEnd_97 : decode cX2_waterRestEnd 97 = .ok (.iload_n 3, 1) := by decide +kernel
theorem dX2_waterRestEnd_98 : decode cX2_waterRestEnd 98 = .ok (.iconst 1, 1) := by decide +kernel
theorem dX2_waterRestEnd_99 : decode cX2_waterRestEnd 99 = .ok (.iadd, 1) := by decide +kernel
theorem dX2_waterRestEnd_100 : decode cX2_waterRestEnd 100 = .ok (.invokevirtual 53, 3) := by decide +kernel
theorem dX2_waterRestEnd_103 : decode cX2_waterRestEnd 103 = .ok (.ireturn, 1) := by decide +kernel
theorem dX3_init_0 : decode cX3_init 0 = .ok (.aload_n 0, 1) := by decide +kernel
theorem dX3_init_1 : decode cX3_init 1 = .ok (.invokespecial 3, 3) := by decide +kernel
theorem dX3_init_4 : decode cX3_init 4 = .ok (.aload_n 0, 1) := by decide +kernel
theorem dX3_init_5 : decode cX3_init 5 = .ok (.new 9, 3) := by decide +kernel
theorem dX3_init_8 : decode cX3_init 8 = .ok (.dup, 1) := by decide +kernel
theorem dX3_init_9 : decode cX3_init 9 = .ok (.bipush 100, 2) := by decide +kernel
theorem dX3_init_11 : decode cX3_init 11 = .ok (.invokespecial 11, 3) := by decide +kernel
theorem dX3_init_14 : decode cX3_init 14 = .ok (.putfield 14, 3) := by decide +kernel
theorem dX3_init_17 : decode cX3_init 17 = .ok (.aload_n 0, 1) := by decide +kernel
theorem dX3_init_18 : decode cX3_init 18 = .ok (.new 9, 3) := by decide +kernel
theorem dX3_init_21 : decode cX3_init 21 = .ok (.dup, 1) := by decide +kernel
theorem dX3_init_22 : decode cX3_init 22 = .ok (.bipush 100, 2) := by decide +kernel
theorem dX3_init_24 : decode cX3_init 24 = .ok (.invokespecial 11, 3) := by decide +kernel
theorem dX3_init_27 : decode cX3_init 27 = .ok (.putfield 20, 3) := by decide +kernel
theorem dX3_init_30 : decode cX3_init 30 = .ok (.aload_n 0, 1) := by decide +kernel
theorem dX3_init_31 : decode cX3_init 31 = .ok (.new 9, 3) := by decide +kernel
theorem dX3_init_34 : decode cX3_init 34 = .ok (.dup, 1) := by decide +kernel
theorem dX3_init_35 : decode cX3_init 35 = .ok (.bipush 100, 2) := by decide +kernel
theorem dX3_init_37 : decode cX3_init 37 = .ok (.invokespecial 11, 3) := by decide +kernel
theorem dX3_init_40 : decode cX3_init 40 = .ok (.putfield 23, 3) := by decide +kernel
theorem dX3_init_43 : decode cX3_init 43 = .ok (.aload_n 0, 1) := by decide +kernel
theorem dX3_init_44 : decode cX3_init 44 = .ok (.new 9, 3) := by decide +kernel
theorem dX3_init_47 : decode cX3_init 47 = .ok (.dup, 1) := by decide +kernel
theorem dX3_init_48 : decode cX3_init 48 = .ok (.bipush 100, 2) := by decide +kernel
theorem dX3_init_50 : decode cX3_init 50 = .ok (.invokespecial 11, 3) := by decide +kernel
theorem dX3_init_53 : decode cX3_init 53 = .ok (.putfield 26, 3) := by decide +kernel
theorem dX3_init_56 : decode cX3_init 56 = .ok (.aload_n 0, 1) := by decide +kernel
theorem dX3_init_57 : decode cX3_init 57 = .ok (.new 9, 3) := by decide +kernel
theorem dX3_init_60 : decode cX3_init 60 = .ok (.dup, 1) := by decide +kernel
theorem dX3_init_61 : decode cX3_init 61 = .ok (.bipush 100, 2) := by decide +kernel
theorem dX3_init_63 : decode cX3_init 63 = .ok (.invokespecial 11, 3) := by decide +kernel
theorem dX3_init_66 : decode cX3_init 66 = .ok (.putfield 29, 3) := by decide +kernel
theorem dX3_init_69 : decode cX3_init 69 = .ok (.aload_n 0, 1) := by decide +kernel
theorem dX3_init_70 : decode cX3_init 70 = .ok (.new 9, 3) := by decide +kernel
theorem dX3_init_73 : decode cX3_init 73 = .ok (.dup, 1) := by decide +kernel
theorem dX3_init_74 : decode cX3_init 74 = .ok (.bipush 100, 2) := by decide +kernel
theorem dX3_init_76 : decode cX3_init 76 = .ok (.invokespecial 11, 3) := by decide +kernel
theorem dX3_init_79 : decode cX3_init 79 = .ok (.putfield 32, 3) := by decide +kernel
theorem dX3_init_82 : decode cX3_init 82 = .ok (.aload_n 0, 1) := by decide +kernel
theorem dX3_init_83 : decode cX3_init 83 = .ok (.new 9, 3) := by decide +kernel
theorem dX3_init_86 : decode cX3_init 86 = .ok (.dup, 1) := by decide +kernel
theorem dX3_init_87 : decode cX3_init 87 = .ok (.bipush 100, 2) := by decide +kernel
theorem dX3_init_89 : decode cX3_init 89 = .ok (.invokespecial 11, 3) := by decide +kernel
theorem dX3_init_92 : decode cX3_init 92 = .ok (.putfield 35, 3) := by decide +kernel
theorem dX3_init_95 : decode cX3_init 95 = .ok (.aload_n 0, 1) := by decide +kernel
theorem dX3_init_96 : decode cX3_init 96 = .ok (.new 9, 3) := by decide +kernel
theorem dX3_init_99 : decode cX3_init 99 = .ok (.dup, 1) := by decide +kernel
theorem dX3_init_100 : decode cX3_init 100 = .ok (.bipush 100, 2) := by decide +kernel
theorem dX3_init_102 : decode cX3_init 102 = .ok (.invokespecial 11, 3) := by decide +kernel
theorem dX3_init_105 : decode cX3_init 105 = .ok (.putfield 38, 3) := by decide +kernel
theorem dX3_init_108 : decode cX3_init 108 = .ok (.aload_n 0, 1) := by decide +kernel
theorem dX3_init_109 : decode cX3_init 109 = .ok (.new 9, 3) := by decide +kernel
theorem dX3_init_112 : decode cX3_init 112 = .ok (.dup, 1) := by decide +kernel
theorem dX3_init_113 : decode cX3_init 113 = .ok (.bipush 100, 2) := by decide +kernel
theorem dX3_init_115 : decode cX3_init 115 = .ok (.invokespecial 11, 3) := by decide +kernel
theorem dX3_init_118 : decode cX3_init 118 = .ok (.putfield 41, 3) := by decide +kernel
theorem dX3_init_121 : decode cX3_init 121 = .ok (.aload_n 0, 1) := by decide +kernel
theorem dX3_init_122 : decode cX3_init 122 = .ok (.iconst 0, 1) := by decide +kernel
theorem dX3_init_123 : decode cX3_init 123 = .ok (.putfield 44, 3) := by decide +kernel
theorem dX3_init_126 : decode cX3_init 126 = .ok (.aload_n 0, 1) := by decide +kernel
theorem dX3_init_127 : decode cX3_init 127 = .ok (.iconst 0, 1) := by decide +kernel
theorem dX3_init_128 : decode cX3_init 128 = .ok (.putfield 48, 3) := by decide +kernel
theorem dX3_init_131 : decode cX3_init 131 = .ok (.aload_n 0, 1) := by decide +kernel
theorem dX3_init_132 : decode cX3_init 132 = .ok (.iconst 0, 1) := by decide +kernel
theorem dX3_init_133 : decode cX3_init 133 = .ok (.putfield 51, 3) := by decide +kernel
theorem dX3_init_136 : decode cX3_init 136 = .ok (.aload_n 0, 1) := by decide +kernel
theorem dX3_init_137 : decode cX3_init 137 = .ok (.iconst 0, 1) := by decide +kernel
theorem dX3_init_138 : decode cX3_init 138 = .ok (.putfield 54, 3) := by decide +kernel
theorem dX3_init_141 : decode cX3_init 141 = .ok (.aload_n 0, 1) := by decide +kernel
theorem dX3_init_142 : decode cX3_init 142 = .ok (.iconst 0, 1) := by decide +kernel
theorem dX3_init_143 : decode cX3_init 143 = .ok (.putfield 57, 3) := by decide +kernel
theorem dX3_init_146 : decode cX3_init 146 = .ok (.aload_n 0, 1) := by decide +kernel
theorem dX3_init_147 : decode cX3_init 147 = .ok (.aload_n 1, 1) := by decide +kernel
theorem dX3_init_148 : decode cX3_init 148 = .ok (.putfield 60, 3) := by decide +kernel
theorem dX3_init_151 : decode cX3_init 151 = .ok (.aload_n 0, 1) := by decide +kernel
theorem dX3_init_152 : decode cX3_init 152 = .ok (.aload_n 2, 1) := by decide +kernel
theorem dX3_init_153 : decode cX3_init 153 = .ok (.putfield 64, 3) := by decide +kernel
theorem dX3_init_156 : decode cX3_init 156 = .ok (.return_, 1) := by decide +kernel
theorem dX3_update_0 : decode cX3_update 0 = .ok (.aload_n 0, 1) := by decide +kernel
theorem dX3_update_1 : decode cX3_update 1 = .ok (.invokevirtual 68, 3) := by decide +kernel
theorem dX3_update_4 : decode cX3_update 4 = .ok (.iconst 0, 1) := by decide +kernel
theorem dX3_update_5 : decode cX3_update 5 = .ok (.istore_n 1, 1) := by decide +kernel
theorem dX3_update_6 : decode cX3_update 6 = .ok (.aload_n 0, 1) := by decide +kernel
theorem dX3_update_7 : decode cX3_update 7 = .ok (.getfield 60, 3) := by decide +kernel
theorem dX3_update_10 : decode cX3_update 10 = .ok (.invokevirtual 71, 3) := by decide +kernel
theorem dX3_update_13 : decode cX3_update 13 = .ok (.istore_n 2, 1) := by decide +kernel
theorem dX3_update_14 : decode cX3_update 14 = .ok (.iconst 0, 1) := by decide +kernel
theorem dX3_update_15 : decode cX3_update 15 = .ok (.istore_n 3, 1) := by decide +kernel
theorem dX3_update_16 : decode cX3_update 16 = .ok (.iload_n 3, 1) := by decide +kernel
theorem dX3_update_17 : decode cX3_update 17 = .ok (.iload_n 2, 1) := by decide +kernel
theorem dX3_update_18 : decode cX3_update 18 = .ok (.if_icmp .ge 47, 3) := by decide +kernel
theorem dX3_update_21 : decode cX3_update 21 = .ok (.iload_n 3, 1) := by decide +kernel
theorem dX3_update_22 : decode cX3_update 22 = .ok (.iload_n 1, 1) := by decide +kernel
theorem dX3_update_23 : decode cX3_update 23 = .ok (.if_icmp .ne 9, 3) := by decide +kernel
theorem dX3_update_26 : decode cX3_update 26 = .ok (.aload_n 0, 1) := by decide +kernel
theorem dX3_update_27 : decode cX3_update 27 = .ok (.iload_n 3, 1) := by decide +kernel
theorem dX3_update_28 : decode cX3_update 28 = .ok (.invokevirtual 77, 3) := by decide +kernel
theorem dX3_update_31 : decode cX3_update 31 = .ok (.istore_n 1, 1) := by decide +kernel
theorem dX3_update_32 : decode cX3_update 32 = .ok (.aload_n 0, 1) := by decide +kernel
theorem dX3_update_33 : decode cX3_update 33 = .ok (.getfield 38, 3) := by decide +kernel
theorem dX3_update_36 : decode cX3_update 36 = .ok (.iload_n 3, 1) := by decide +kernel
theorem dX3_update_37 : decode cX3_update 37 = .ok (.invokevirtual 81, 3) := by decide +kernel
theorem dX3_update_40 : decode cX3_update 40 = .ok (.iconst (-1), 1) := by decide +kernel
theorem dX3_update_41 : decode cX3_update 41 = .ok (.if_icmp .eq 18, 3) := by decide +kernel
theorem dX3_update_44 : decode cX3_update 44 = .ok (.aload_n 0, 1) := by decide +kernel
theorem dX3_update_45 : decode cX3_update 45 = .ok (.iload_n 3, 1) := by decide +kernel
theorem dX3_update_46 : decode cX3_update 46 = .ok (.invokevirtual 84, 3) := by decide +kernel
theorem dX3_update_49 : decode cX3_update 49 = .ok (.aload_n 0, 1) := by decide +kernel
theorem dX3_update_50 : decode cX3_update 50 = .ok (.aload_n 0, 1) := by decide +kernel
theorem dX3_update_51 : decode cX3_update 51 = .ok (.getfield 44, 3) := by decide +kernel
theorem dX3_update_54 : decode cX3_update 54 = .ok (.iconst 1, 1) := by decide +kernel
theorem dX3_update_55 : decode cX3_update 55 = .ok (.isub, 1) := by decide +kernel
theorem dX3_update_56 : decode cX3_update 56 = .ok (.invokevirtual 87, 3) := by decide +kernel
theorem dX3_update_59 : decode cX3_update 59 = .ok (.iinc 3 1, 3) := by decide +kernel
theorem dX3_update_62 : decode cX3_update 62 = .ok (.goto (-46), 3) := by decide +kernel
theorem dX3_update_65 : decode cX3_update 65 = .ok (.return_, 1) := by decide +kernel
theorem dX3_total_0 : decode cX3_total 0 = .ok (.aload_n 0, 1) := by decide +kernel
theorem dX3_total_1 : decode cX3_total 1 = .ok (.getfield 44, 3) := by decide +kernel
theorem dX3_total_4 : decode cX3_total 4 = .ok (.ireturn, 1) := by decide +kernel
theorem dX3_has_0 : decode cX3_has 0 = .ok (.iload_n 1, 1) := by decide +kernel
theorem dX3_has_1 : decode cX3_has 1 = .ok (.ifCond .lt 15, 3) := by decide +kernel
theorem dX3_has_4 : decode cX3_has 4 = .ok (.iload_n 1, 1) := by decide +kernel
theorem dX3_has_5 : decode cX3_has 5 = .ok (.aload_n 0, 1) := by decide +kernel
theorem dX3_has_6 : decode cX3_has 6 = .ok (.getfield 44, 3) := by decide +kernel
theorem dX3_has_9 : decode cX3_has 9 = .ok (.if_icmp .ge 7, 3) := by decide +kernel
theorem dX3_has_12 : decode cX3_has 12 = .ok (.iconst 1, 1) := by decide +kernel
theorem dX3_has_13 : decode cX3_has 13 = .ok (.goto 4, 3) := by decide +kernel
theorem dX3_has_16 : decode cX3_has 16 = .ok (.iconst 0, 1) := by decide +kernel
theorem dX3_has_17 : decode cX3_has 17 = .ok (.ireturn, 1) := by decide +kernel
theorem dX3_topLevelTotal_0 : decode cX3_topLevelTotal 0 = .ok (.aload_n 0, 1) := by decide +kernel
theorem dX3_topLevelTotal_1 : decode cX3_topLevelTotal 1 = .ok (.getfield 48, 3) := by decide +kernel
theorem dX3_topLevelTotal_4 : decode cX3_topLevelTotal 4 = .ok (.ireturn, 1) := by decide +kernel
theorem dX3_topWater_0 : decode cX3_topWater 0 = .ok (.aload_n 0, 1) := by decide +kernel
theorem dX3_topWater_1 : decode cX3_topWater 1 = .ok (.getfield 51, 3) := by decide +kernel
theorem dX3_topWater_4 : decode cX3_topWater 4 = .ok (.ireturn, 1) := by decide +kernel
theorem dX3_longestTopWater_0 : decode cX3_longestTopWater 0 = .ok (.aload_n 0, 1) := by decide +kernel
theorem dX3_longestTopWater_1 : decode cX3_longestTopWater 1 = .ok (.getfield 57, 3) := by decide +kernel
theorem dX3_longestTopWater_4 : decode cX3_longestTopWater 4 = .ok (.ireturn, 1) := by decide +kernel
theorem dX3_ruleOf_0 : decode cX3_ruleOf 0 = .ok (.aload_n 0, 1) := by decide +kernel
theorem dX3_ruleOf_1 : decode cX3_ruleOf 1 = .ok (.getfield 14, 3) := by decide +kernel
theorem dX3_ruleOf_4 : decode cX3_ruleOf 4 = .ok (.iload_n 1, 1) := by decide +kernel
theorem dX3_ruleOf_5 : decode cX3_ruleOf 5 = .ok (.invokevirtual 81, 3) := by decide +kernel
theorem dX3_ruleOf_8 : decode cX3_ruleOf 8 = .ok (.ireturn, 1) := by decide +kernel
theorem dX3_startOf_0 : decode cX3_startOf 0 = .ok (.aload_n 0, 1) := by decide +kernel
theorem dX3_startOf_1 : decode cX3_startOf 1 = .ok (.getfield 20, 3) := by decide +kernel
theorem dX3_startOf_4 : decode cX3_startOf 4 = .ok (.iload_n 1, 1) := by decide +kernel
theorem dX3_startOf_5 : decode cX3_startOf 5 = .ok (.invokevirtual 81, 3) := by decide +kernel
theorem dX3_startOf_8 : decode cX3_startOf 8 = .ok (.ireturn, 1) := by decide +kernel
theorem dX3_endOf_0 : decode cX3_endOf 0 = .ok (.aload_n 0, 1) := by decide +kernel
theorem dX3_endOf_1 : decode cX3_endOf 1 = .ok (.getfield 23, 3) := by decide +kernel
theorem dX3_endOf_4 : decode cX3_endOf 4 = .ok (.iload_n 1, 1) := by decide +kernel
theorem dX3_endOf_5 : decode cX3_endOf 5 = .ok (.invokevirtual 81, 3) := by decide +kernel
theorem dX3_endOf_8 : decode cX3_endOf 8 = .ok (.ireturn, 1) := by decide +kernel
theorem dX3_parentOf_0 : decode cX3_parentOf 0 = .ok (.aload_n 0, 1) := by decide +kernel
theorem dX3_parentOf_1 : decode cX3_parentOf 1 = .ok (.getfield 26, 3) := by decide +kernel
theorem dX3_parentOf_4 : decode cX3_parentOf 4 = .ok (.iload_n 1, 1) := by decide +kernel
theorem dX3_parentOf_5 : decode cX3_parentOf 5 = .ok (.invokevirtual 81, 3) := by decide +kernel
theorem dX3_parentOf_8 : decode cX3_parentOf 8 = .ok (.ireturn, 1) := by decide +kernel
theorem dX3_depthOf_0 : decode cX3_depthOf 0 = .ok (.aload_n 0, 1) := by decide +kernel
theorem dX3_depthOf_1 : decode cX3_depthOf 1 = .ok (.getfield 29, 3) := by decide +kernel
theorem dX3_depthOf_4 : decode cX3_depthOf 4 = .ok (.iload_n 1, 1) := by decide +kernel
theorem dX3_depthOf_5 : decode cX3_depthOf 5 = .ok (.invokevirtual 81, 3) := by decide +kernel
theorem dX3_depthOf_8 : decode cX3_depthOf 8 = .ok (.ireturn, 1) := by decide +kernel
theorem dX3_waterOf_0 : decode cX3_waterOf 0 = .ok (.aload_n 0, 1) := by decide +kernel
theorem dX3_waterOf_1 : decode cX3_waterOf 1 = .ok (.getfield 32, 3) := by decide +kernel
theorem dX3_waterOf_4 : decode cX3_waterOf 4 = .ok (.iload_n 1, 1) := by decide +kernel
theorem dX3_waterOf_5 : decode cX3_waterOf 5 = .ok (.invokevirtual 81, 3) := by decide +kernel
theorem dX3_waterOf_8 : decode cX3_waterOf 8 = .ok (.ireturn, 1) := by decide +kernel
theorem dX3_numberOf_0 : decode cX3_numberOf 0 = .ok (.aload_n 0, 1) := by decide +kernel
theorem dX3_numberOf_1 : decode cX3_numberOf 1 = .ok (.getfield 35, 3) := by decide +kernel
theorem dX3_numberOf_4 : decode cX3_numberOf 4 = .ok (.iload_n 1, 1) := by decide +kernel
theorem dX3_numberOf_5 : decode cX3_numberOf 5 = .ok (.invokevirtual 81, 3) := by decide +kernel
theorem dX3_numberOf_8 : decode cX3_numberOf 8 = .ok (.ireturn, 1) := by decide +kernel
theorem dX3_totalOf_0 : decode cX3_totalOf 0 = .ok (.iconst 0, 1) := by decide +kernel
theorem dX3_totalOf_1 : decode cX3_totalOf 1 = .ok (.istore_n 2, 1) := by decide +kernel
theorem dX3_totalOf_2 : decode cX3_totalOf 2 = .ok (.iconst 0, 1) := by decide +kernel
theorem dX3_totalOf_3 : decode cX3_totalOf 3 = .ok (.istore_n 3, 1) := by decide +kernel
theorem dX3_totalOf_4 : decode cX3_totalOf 4 = .ok (.iload_n 3, 1) := by decide +kernel
theorem dX3_totalOf_5 : decode cX3_totalOf 5 = .ok (.aload_n 0, 1) := by decide +kernel
theorem dX3_totalOf_6 : decode cX3_totalOf 6 = .ok (.getfield 44, 3) := by decide +kernel
theorem dX3_totalOf_9 : decode cX3_totalOf 9 = .ok (.if_icmp .ge 24, 3) := by decide +kernel
theorem dX3_totalOf_12 : decode cX3_totalOf 12 = .ok (.aload_n 0, 1) := by decide +kernel
theorem dX3_totalOf_13 : decode cX3_totalOf 13 = .ok (.getfield 14, 3) := by decide +kernel
theorem dX3_totalOf_16 : decode cX3_totalOf 16 = .ok (.iload_n 3, 1) := by decide +kernel
theorem dX3_totalOf_17 : decode cX3_totalOf 17 = .ok (.invokevirtual 81, 3) := by decide +kernel
theorem dX3_totalOf_20 : decode cX3_totalOf 20 = .ok (.iload_n 1, 1) := by decide +kernel
theorem dX3_totalOf_21 : decode cX3_totalOf 21 = .ok (.if_icmp .ne 6, 3) := by decide +kernel
theorem dX3_totalOf_24 : decode cX3_totalOf 24 = .ok (.iinc 2 1, 3) := by decide +kernel
theorem dX3_totalOf_27 : decode cX3_totalOf 27 = .ok (.iinc 3 1, 3) := by decide +kernel
theorem dX3_totalOf_30 : decode cX3_totalOf 30 = .ok (.goto (-26), 3) := by decide +kernel
theorem dX3_totalOf_33 : decode cX3_totalOf 33 = .ok (.iload_n 2, 1) := by decide +kernel
theorem dX3_totalOf_34 : decode cX3_totalOf 34 = .ok (.ireturn, 1) := by decide +kernel
theorem dX3_innermostAt_0 : decode cX3_innermostAt 0 = .ok (.aload_n 0, 1) := by decide +kernel
theorem dX3_innermostAt_1 : decode cX3_innermostAt 1 = .ok (.getfield 44, 3) := by decide +kernel
theorem dX3_innermostAt_4 : decode cX3_innermostAt 4 = .ok (.iconst 1, 1) := by decide +kernel
theorem dX3_innermostAt_5 : decode cX3_innermostAt 5 = .ok (.isub, 1) := by decide +kernel
theorem dX3_innermostAt_6 : decode cX3_innermostAt 6 = .ok (.istore_n 2, 1) := by decide +kernel
theorem dX3_innermostAt_7 : decode cX3_innermostAt 7 = .ok (.iload_n 2, 1) := by decide +kernel
theorem dX3_innermostAt_8 : decode cX3_innermostAt 8 = .ok (.ifCond .lt 35, 3) := by decide +kernel
theorem dX3_innermostAt_11 : decode cX3_innermostAt 11 = .ok (.aload_n 0, 1) := by decide +kernel
theorem dX3_innermostAt_12 : decode cX3_innermostAt 12 = .ok (.getfield 20, 3) := by decide +kernel
theorem dX3_innermostAt_15 : decode cX3_innermostAt 15 = .ok (.iload_n 2, 1) := by decide +kernel
theorem dX3_innermostAt_16 : decode cX3_innermostAt 16 = .ok (.invokevirtual 81, 3) := by decide +kernel
theorem dX3_innermostAt_19 : decode cX3_innermostAt 19 = .ok (.iload_n 1, 1) := by decide +kernel
theorem dX3_innermostAt_20 : decode cX3_innermostAt 20 = .ok (.if_icmp .gt 17, 3) := by decide +kernel
theorem dX3_innermostAt_23 : decode cX3_innermostAt 23 = .ok (.iload_n 1, 1) := by decide +kernel
theorem dX3_innermostAt_24 : decode cX3_innermostAt 24 = .ok (.aload_n 0, 1) := by decide +kernel
theorem dX3_innermostAt_25 : decode cX3_innermostAt 25 = .ok (.getfield 23, 3) := by decide +kernel
theorem dX3_innermostAt_28 : decode cX3_innermostAt 28 = .ok (.iload_n 2, 1) := by decide +kernel
theorem dX3_innermostAt_29 : decode cX3_innermostAt 29 = .ok (.invokevirtual 81, 3) := by decide +kernel
theorem dX3_innermostAt_32 : decode cX3_innermostAt 32 = .ok (.if_icmp .ge 5, 3) := by decide +kernel
theorem dX3_innermostAt_35 : decode cX3_innermostAt 35 = .ok (.iload_n 2, 1) := by decide +kernel
theorem dX3_innermostAt_36 : decode cX3_innermostAt 36 = .ok (.ireturn, 1) := by decide +kernel
theorem dX3_innermostAt_37 : decode cX3_innermostAt 37 = .ok (.iinc 2 (-1), 3) := by decide +kernel
theorem dX3_innermostAt_40 : decode cX3_innermostAt 40 = .ok (.goto (-33), 3) := by decide +kernel
theorem dX3_innermostAt_43 : decode cX3_innermostAt 43 = .ok (.iconst (-1), 1) := by decide +kernel
theorem dX3_innermostAt_44 : decode cX3_innermostAt 44 = .ok (.ireturn, 1) := by decide +kernel
theorem dX3_mixInto_0 : decode cX3_mixInto 0 = .ok (.lload_n 1, 1) := by decide +kernel
theorem dX3_mixInto_1 : decode cX3_mixInto 1 = .ok (.aload_n 0, 1) := by decide +kernel
theorem dX3_mixInto_2 : decode cX3_mixInto 2 = .ok (.getfield 44, 3) := by decide +kernel
theorem dX3_mixInto_5 : decode cX3_mixInto 5 = .ok (.i2l, 1) := by decide +kernel
theorem dX3_mixInto_6 : decode cX3_mixInto 6 = .ok (.invokestatic 90, 3) := by decide +kernel
theorem dX3_mixInto_9 : decode cX3_mixInto 9 = .ok (.lstore_n 3, 1) := by decide +kernel
theorem dX3_mixInto_10 : decode cX3_mixInto 10 = .ok (.iconst 0, 1) := by decide +kernel
theorem dX3_mixInto_11 : decode cX3_mixInto 11 = .ok (.istore 5, 2) := by decide +kernel
theorem dX3_mixInto_13 : decode cX3_mixInto 13 = .ok (.iload 5, 2) := by decide +kernel
theorem dX3_mixInto_15 : decode cX3_mixInto 15 = .ok (.aload_n 0, 1) := by decide +kernel
theorem dX3_mixInto_16 : decode cX3_mixInto 16 = .ok (.getfield 44, 3) := by decide +kernel
theorem dX3_mixInto_19 : decode cX3_mixInto 19 = .ok (.if_icmp .ge 99, 3) := by decide +kernel
theorem dX3_mixInto_22 : decode cX3_mixInto 22 = .ok (.lload_n 3, 1) := by decide +kernel
theorem dX3_mixInto_23 : decode cX3_mixInto 23 = .ok (.aload_n 0, 1) := by decide +kernel
theorem dX3_mixInto_24 : decode cX3_mixInto 24 = .ok (.getfield 14, 3) := by decide +kernel
theorem dX3_mixInto_27 : decode cX3_mixInto 27 = .ok (.iload 5, 2) := by decide +kernel
theorem dX3_mixInto_29 : decode cX3_mixInto 29 = .ok (.invokevirtual 81, 3) := by decide +kernel
theorem dX3_mixInto_32 : decode cX3_mixInto 32 = .ok (.i2l, 1) := by decide +kernel
theorem dX3_mixInto_33 : decode cX3_mixInto 33 = .ok (.invokestatic 90, 3) := by decide +kernel
theorem dX3_mixInto_36 : decode cX3_mixInto 36 = .ok (.lstore_n 3, 1) := by decide +kernel
theorem dX3_mixInto_37 : decode cX3_mixInto 37 = .ok (.lload_n 3, 1) := by decide +kernel
theorem dX3_mixInto_38 : decode cX3_mixInto 38 = .ok (.aload_n 0, 1) := by decide +kernel
theorem dX3_mixInto_39 : decode cX3_mixInto 39 = .ok (.getfield 20, 3) := by decide +kernel
theorem dX3_mixInto_42 : decode cX3_mixInto 42 = .ok (.iload 5, 2) := by decide +kernel
theorem dX3_mixInto_44 : decode cX3_mixInto 44 = .ok (.invokevirtual 81, 3) := by decide +kernel
theorem dX3_mixInto_47 : decode cX3_mixInto 47 = .ok (.i2l, 1) := by decide +kernel
theorem dX3_mixInto_48 : decode cX3_mixInto 48 = .ok (.invokestatic 90, 3) := by decide +kernel
theorem dX3_mixInto_51 : decode cX3_mixInto 51 = .ok (.lstore_n 3, 1) := by decide +kernel
theorem dX3_mixInto_52 : decode cX3_mixInto 52 = .ok (.lload_n 3, 1) := by decide +kernel
theorem dX3_mixInto_53 : decode cX3_mixInto 53 = .ok (.aload_n 0, 1) := by decide +kernel
theorem dX3_mixInto_54 : decode cX3_mixInto 54 = .ok (.getfield 23, 3) := by decide +kernel
theorem dX3_mixInto_57 : decode cX3_mixInto 57 = .ok (.iload 5, 2) := by decide +kernel
theorem dX3_mixInto_59 : decode cX3_mixInto 59 = .ok (.invokevirtual 81, 3) := by decide +kernel
theorem dX3_mixInto_62 : decode cX3_mixInto 62 = .ok (.i2l, 1) := by decide +kernel
theorem dX3_mixInto_63 : decode cX3_mixInto 63 = .ok (.invokestatic 90, 3) := by decide +kernel
theorem dX3_mixInto_66 : decode cX3_mixInto 66 = .ok (.lstore_n 3, 1) := by decide +kernel
theorem dX3_mixInto_67 : decode cX3_mixInto 67 = .ok (.lload_n 3, 1) := by decide +kernel
theorem dX3_mixInto_68 : decode cX3_mixInto 68 = .ok (.aload_n 0, 1) := by decide +kernel
theorem dX3_mixInto_69 : decode cX3_mixInto 69 = .ok (.getfield 26, 3) := by decide +kernel
theorem dX3_mixInto_72 : decode cX3_mixInto 72 = .ok (.iload 5, 2) := by decide +kernel
theorem dX3_mixInto_74 : decode cX3_mixInto 74 = .ok (.invokevirtual 81, 3) := by decide +kernel
theorem dX3_mixInto_77 : decode cX3_mixInto 77 = .ok (.i2l, 1) := by decide +kernel
theorem dX3_mixInto_78 : decode cX3_mixInto 78 = .ok (.invokestatic 90, 3) := by decide +kernel
theorem dX3_mixInto_81 : decode cX3_mixInto 81 = .ok (.lstore_n 3, 1) := by decide +kernel
theorem dX3_mixInto_82 : decode cX3_mixInto 82 = .ok (.lload_n 3, 1) := by decide +kernel
theorem dX3_mixInto_83 : decode cX3_mixInto 83 = .ok (.aload_n 0, 1) := by decide +kernel
theorem dX3_mixInto_84 : decode cX3_mixInto 84 = .ok (.getfield 32, 3) := by decide +kernel
theorem dX3_mixInto_87 : decode cX3_mixInto 87 = .ok (.iload 5, 2) := by decide +kernel
theorem dX3_mixInto_89 : decode cX3_mixInto 89 = .ok (.invokevirtual 81, 3) := by decide +kernel
theorem dX3_mixInto_92 : decode cX3_mixInto 92 = .ok (.i2l, 1) := by decide +kernel
theorem dX3_mixInto_93 : decode cX3_mixInto 93 = .ok (.invokestatic 90, 3) := by decide +kernel
theorem dX3_mixInto_96 : decode cX3_mixInto 96 = .ok (.lstore_n 3, 1) := by decide +kernel
theorem dX3_mixInto_97 : decode cX3_mixInto 97 = .ok (.lload_n 3, 1) := by decide +kernel
theorem dX3_mixInto_98 : decode cX3_mixInto 98 = .ok (.aload_n 0, 1) := by decide +kernel
theorem dX3_mixInto_99 : decode cX3_mixInto 99 = .ok (.getfield 35, 3) := by decide +kernel
theorem dX3_mixInto_102 : decode cX3_mixInto 102 = .ok (.iload 5, 2) := by decide +kernel
theorem dX3_mixInto_104 : decode cX3_mixInto 104 = .ok (.invokevirtual 81, 3) := by decide +kernel
theorem dX3_mixInto_107 : decode cX3_mixInto 107 = .ok (.i2l, 1) := by decide +kernel
theorem dX3_mixInto_108 : decode cX3_mixInto 108 = .ok (.invokestatic 90, 3) := by decide +kernel
theorem dX3_mixInto_111 : decode cX3_mixInto 111 = .ok (.lstore_n 3, 1) := by decide +kernel
theorem dX3_mixInto_112 : decode cX3_mixInto 112 = .ok (.iinc 5 1, 3) := by decide +kernel
theorem dX3_mixInto_115 : decode cX3_mixInto 115 = .ok (.goto (-102), 3) := by decide +kernel
theorem dX3_mixInto_118 : decode cX3_mixInto 118 = .ok (.lload_n 3, 1) := by decide +kernel
theorem dX3_mixInto_119 : decode cX3_mixInto 119 = .ok (.aload_n 0, 1) := by decide +kernel
theorem dX3_mixInto_120 : decode cX3_mixInto 120 = .ok (.getfield 51, 3) := by decide +kernel
theorem dX3_mixInto_123 : decode cX3_mixInto 123 = .ok (.i2l, 1) := by decide +kernel
theorem dX3_mixInto_124 : decode cX3_mixInto 124 = .ok (.invokestatic 90, 3) := by decide +kernel
theorem dX3_mixInto_127 : decode cX3_mixInto 127 = .ok (.aload_n 0, 1) := by decide +kernel
theorem dX3_mixInto_128 : decode cX3_mixInto 128 = .ok (.getfield 57, 3) := by decide +kernel
theorem dX3_mixInto_131 : decode cX3_mixInto 131 = .ok (.i2l, 1) := by decide +kernel
theorem dX3_mixInto_132 : decode cX3_mixInto 132 = .ok (.invokestatic 90, 3) := by decide +kernel
theorem dX3_mixInto_135 : decode cX3_mixInto 135 = .ok (.lreturn, 1) := by decide +kernel
theorem dX3_clear_0 : decode cX3_clear 0 = .ok (.aload_n 0, 1) := by decide +kernel
theorem dX3_clear_1 : decode cX3_clear 1 = .ok (.getfield 38, 3) := by decide +kernel
theorem dX3_clear_4 : decode cX3_clear 4 = .ok (.iconst (-1), 1) := by decide +kernel
theorem dX3_clear_5 : decode cX3_clear 5 = .ok (.invokevirtual 94, 3) := by decide +kernel
theorem dX3_clear_8 : decode cX3_clear 8 = .ok (.aload_n 0, 1) := by decide +kernel
theorem dX3_clear_9 : decode cX3_clear 9 = .ok (.iconst 0, 1) := by decide +kernel
theorem dX3_clear_10 : decode cX3_clear 10 = .ok (.putfield 44, 3) := by decide +kernel
theorem dX3_clear_13 : decode cX3_clear 13 = .ok (.aload_n 0, 1) := by decide +kernel
theorem dX3_clear_14 : decode cX3_clear 14 = .ok (.iconst 0, 1) := by decide +kernel
theorem dX3_clear_15 : decode cX3_clear 15 = .ok (.putfield 48, 3) := by decide +kernel
theorem dX3_clear_18 : decode cX3_clear 18 = .ok (.aload_n 0, 1) := by decide +kernel
theorem dX3_clear_19 : decode cX3_clear 19 = .ok (.iconst 0, 1) := by decide +kernel
theorem dX3_clear_20 : decode cX3_clear 20 = .ok (.putfield 51, 3) := by decide +kernel
theorem dX3_clear_23 : decode cX3_clear 23 = .ok (.aload_n 0, 1) := by decide +kernel
theorem dX3_clear_24 : decode cX3_clear 24 = .ok (.iconst 0, 1) := by decide +kernel
theorem dX3_clear_25 : decode cX3_clear 25 = .ok (.putfield 54, 3) := by decide +kernel
theorem dX3_clear_28 : decode cX3_clear 28 = .ok (.aload_n 0, 1) := by decide +kernel
theorem dX3_clear_29 : decode cX3_clear 29 = .ok (.iconst 0, 1) := by decide +kernel
theorem dX3_clear_30 : decode cX3_clear 30 = .ok (.putfield 57, 3) := by decide +kernel
theorem dX3_clear_33 : decode cX3_clear 33 = .ok (.return_, 1) := by decide +kernel
theorem dX3_takeTopLevel_0 : decode cX3_takeTopLevel 0 = .ok (.aload_n 0, 1) := by decide +kernel
theorem dX3_takeTopLevel_1 : decode cX3_takeTopLevel 1 = .ok (.getfield 64, 3) := by decide +kernel
theorem dX3_takeTopLevel_4 : decode cX3_takeTopLevel 4 = .ok (.iload_n 1, 1) := by decide +kernel
theorem dX3_takeTopLevel_5 : decode cX3_takeTopLevel 5 = .ok (.invokevirtual 97, 3) := by decide +kernel
theorem dX3_takeTopLevel_8 : decode cX3_takeTopLevel 8 = .ok (.istore_n 2, 1) := by decide +kernel
theorem dX3_takeTopLevel_9 : decode cX3_takeTopLevel 9 = .ok (.iload_n 2, 1) := by decide +kernel
theorem dX3_takeTopLevel_10 : decode cX3_takeTopLevel 10 = .ok (.iconst (-1), 1) := by decide +kernel
theorem dX3_takeTopLevel_11 : decode cX3_takeTopLevel 11 = .ok (.if_icmp .ne 42, 3) := by decide +kernel
theorem dX3_takeTopLevel_14 : decode cX3_takeTopLevel 14 = .ok (.aload_n 0, 1) := by decide +kernel
theorem dX3_takeTopLevel_15 : decode cX3_takeTopLevel 15 = .ok (.dup, 1) := by decide +kernel
theorem dX3_takeTopLevel_16 : decode cX3_takeTopLevel 16 = .ok (.getfield 51, 3) := by decide +kernel
theorem dX3_takeTopLevel_19 : decode cX3_takeTopLevel 19 = .ok (.iconst 1, 1) := by decide +kernel
theorem dX3_takeTopLevel_20 : decode cX3_takeTopLevel 20 = .ok (.iadd, 1) := by decide +kernel
theorem dX3_takeTopLevel_21 : decode cX3_takeTopLevel 21 = .ok (.putfield 51, 3) := by decide +kernel
theorem dX3_takeTopLevel_24 : decode cX3_takeTopLevel 24 = .ok (.aload_n 0, 1) := by decide +kernel
theorem dX3_takeTopLevel_25 : decode cX3_takeTopLevel 25 = .ok (.dup, 1) := by decide +kernel
theorem dX3_takeTopLevel_26 : decode cX3_takeTopLevel 26 = .ok (.getfield 54, 3) := by decide +kernel
theorem dX3_takeTopLevel_29 : decode cX3_takeTopLevel 29 = .ok (.iconst 1, 1) := by decide +kernel
theorem dX3_takeTopLevel_30 : decode cX3_takeTopLevel 30 = .ok (.iadd, 1) := by decide +kernel
theorem dX3_takeTopLevel_31 : decode cX3_takeTopLevel 31 = .ok (.putfield 54, 3) := by decide +kernel
theorem dX3_takeTopLevel_34 : decode cX3_takeTopLevel 34 = .ok (.aload_n 0, 1) := by decide +kernel
theorem dX3_takeTopLevel_35 : decode cX3_takeTopLevel 35 = .ok (.aload_n 0, 1) := by decide +kernel
theorem dX3_takeTopLevel_36 : decode cX3_takeTopLevel 36 = .ok (.getfield 57, 3) := by decide +kernel
theorem dX3_takeTopLevel_39 : decode cX3_takeTopLevel 39 = .ok (.aload_n 0, 1) := by decide +kernel
theorem dX3_takeTopLevel_40 : decode cX3_takeTopLevel 40 = .ok (.getfield 54, 3) := by decide +kernel
theorem dX3_takeTopLevel_43 : decode cX3_takeTopLevel 43 = .ok (.invokestatic 102, 3) := by decide +kernel
theorem dX3_takeTopLevel_46 : decode cX3_takeTopLevel 46 = .ok (.putfield 57, 3) := by decide +kernel
theorem dX3_takeTopLevel_49 : decode cX3_takeTopLevel 49 = .ok (.iload_n 1, 1) := by decide +kernel
theorem dX3_takeTopLevel_50 : decode cX3_takeTopLevel 50 = .ok (.iconst 1, 1) := by decide +kernel
theorem dX3_takeTopLevel_51 : decode cX3_takeTopLevel 51 = .ok (.iadd, 1) := by decide +kernel
theorem dX3_takeTopLevel_52 : decode cX3_takeTopLevel 52 = .ok (.ireturn, 1) := by decide +kernel
theorem dX3_takeTopLevel_53 : decode cX3_takeTopLevel 53 = .ok (.aload_n 0, 1) := by decide +kernel
theorem dX3_takeTopLevel_54 : decode cX3_takeTopLevel 54 = .ok (.iconst 0, 1) := by decide +kernel
theorem dX3_takeTopLevel_55 : decode cX3_takeTopLevel 55 = .ok (.putfield 54, 3) := by decide +kernel
theorem dX3_takeTopLevel_58 : decode cX3_takeTopLevel 58 = .ok (.aload_n 0, 1) := by decide +kernel
theorem dX3_takeTopLevel_59 : decode cX3_takeTopLevel 59 = .ok (.dup, 1) := by decide +kernel
theorem dX3_takeTopLevel_60 : decode cX3_takeTopLevel 60 = .ok (.getfield 48, 3) := by decide +kernel
theorem dX3_takeTopLevel_63 : decode cX3_takeTopLevel 63 = .ok (.iconst 1, 1) := by decide +kernel
theorem dX3_takeTopLevel_64 : decode cX3_takeTopLevel 64 = .ok (.iadd, 1) := by decide +kernel
theorem dX3_takeTopLevel_65 : decode cX3_takeTopLevel 65 = .ok (.putfield 48, 3) := by decide +kernel
theorem dX3_takeTopLevel_68 : decode cX3_takeTopLevel 68 = .ok (.aload_n 0, 1) := by decide +kernel
theorem dX3_takeTopLevel_69 : decode cX3_takeTopLevel 69 = .ok (.iload_n 1, 1) := by decide +kernel
theorem dX3_takeTopLevel_70 : decode cX3_takeTopLevel 70 = .ok (.iload_n 2, 1) := by decide +kernel
theorem dX3_takeTopLevel_71 : decode cX3_takeTopLevel 71 = .ok (.iconst (-1), 1) := by decide +kernel
theorem dX3_takeTopLevel_72 : decode cX3_takeTopLevel 72 = .ok (.invokevirtual 108, 3) := by decide +kernel
theorem dX3_takeTopLevel_75 : decode cX3_takeTopLevel 75 = .ok (.aload_n 0, 1) := by decide +kernel
theorem dX3_takeTopLevel_76 : decode cX3_takeTopLevel 76 = .ok (.getfield 64, 3) := by decide +kernel
theorem dX3_takeTopLevel_79 : decode cX3_takeTopLevel 79 = .ok (.iload_n 2, 1) := by decide +kernel
theorem dX3_takeTopLevel_80 : decode cX3_takeTopLevel 80 = .ok (.iload_n 1, 1) := by decide +kernel
theorem dX3_takeTopLevel_81 : decode cX3_takeTopLevel 81 = .ok (.invokevirtual 112, 3) := by decide +kernel
theorem dX3_takeTopLevel_84 : decode cX3_takeTopLevel 84 = .ok (.ireturn, 1) := by decide +kernel
theorem dX3_announce_0 : decode cX3_announce 0 = .ok (.aload_n 0, 1) := by decide +kernel
theorem dX3_announce_1 : decode cX3_announce 1 = .ok (.getfield 38, 3) := by decide +kernel
theorem dX3_announce_4 : decode cX3_announce 4 = .ok (.iload_n 1, 1) := by decide +kernel
theorem dX3_announce_5 : decode cX3_announce 5 = .ok (.iload_n 2, 1) := by decide +kernel
theorem dX3_announce_6 : decode cX3_announce 6 = .ok (.invokevirtual 115, 3) := by decide +kernel
theorem dX3_announce_9 : decode cX3_announce 9 = .ok (.aload_n 0, 1) := by decide +kernel
theorem dX3_announce_10 : decode cX3_announce 10 = .ok (.getfield 41, 3) := by decide +kernel
theorem dX3_announce_13 : decode cX3_announce 13 = .ok (.iload_n 1, 1) := by decide +kernel
theorem dX3_announce_14 : decode cX3_announce 14 = .ok (.iload_n 3, 1) := by decide +kernel
theorem dX3_announce_15 : decode cX3_announce 15 = .ok (.invokevirtual 115, 3) := by decide +kernel
theorem dX3_announce_18 : decode cX3_announce 18 = .ok (.return_, 1) := by decide +kernel
theorem dX3_addNode_0 : decode cX3_addNode 0 = .ok (.aload_n 0, 1) := by decide +kernel
theorem dX3_addNode_1 : decode cX3_addNode 1 = .ok (.getfield 38, 3) := by decide +kernel
theorem dX3_addNode_4 : decode cX3_addNode 4 = .ok (.iload_n 1, 1) := by decide +kernel
theorem dX3_addNode_5 : decode cX3_addNode 5 = .ok (.invokevirtual 81, 3) := by decide +kernel
theorem dX3_addNode_8 : decode cX3_addNode 8 = .ok (.istore_n 2, 1) := by decide +kernel
theorem dX3_addNode_9 : decode cX3_addNode 9 = .ok (.aload_n 0, 1) := by decide +kernel
theorem dX3_addNode_10 : decode cX3_addNode 10 = .ok (.getfield 41, 3) := by decide +kernel
theorem dX3_addNode_13 : decode cX3_addNode 13 = .ok (.iload_n 1, 1) := by decide +kernel
theorem dX3_addNode_14 : decode cX3_addNode 14 = .ok (.invokevirtual 81, 3) := by decide +kernel
theorem dX3_addNode_17 : decode cX3_addNode 17 = .ok (.istore_n 3, 1) := by decide +kernel
theorem dX3_addNode_18 : decode cX3_addNode 18 = .ok (.aload_n 0, 1) := by decide +kernel
theorem dX3_addNode_19 : decode cX3_addNode 19 = .ok (.getfield 14, 3) := by decide +kernel
theorem dX3_addNode_22 : decode cX3_addNode 22 = .ok (.aload_n 0, 1) := by decide +kernel
theorem dX3_addNode_23 : decode cX3_addNode 23 = .ok (.getfield 44, 3) := by decide +kernel
theorem dX3_addNode_26 : decode cX3_addNode 26 = .ok (.iload_n 2, 1) := by decide +kernel
theorem dX3_addNode_27 : decode cX3_addNode 27 = .ok (.invokevirtual 115, 3) := by decide +kernel
theorem dX3_addNode_30 : decode cX3_addNode 30 = .ok (.aload_n 0, 1) := by decide +kernel
theorem dX3_addNode_31 : decode cX3_addNode 31 = .ok (.getfield 20, 3) := by decide +kernel
theorem dX3_addNode_34 : decode cX3_addNode 34 = .ok (.aload_n 0, 1) := by decide +kernel
theorem dX3_addNode_35 : decode cX3_addNode 35 = .ok (.getfield 44, 3) := by decide +kernel
theorem dX3_addNode_38 : decode cX3_addNode 38 = .ok (.iload_n 1, 1) := by decide +kernel
theorem dX3_addNode_39 : decode cX3_addNode 39 = .ok (.invokevirtual 115, 3) := by decide +kernel
theorem dX3_addNode_42 : decode cX3_addNode 42 = .ok (.aload_n 0, 1) := by decide +kernel
theorem dX3_addNode_43 : decode cX3_addNode 43 = .ok (.getfield 23, 3) := by decide +kernel
theorem dX3_addNode_46 : decode cX3_addNode 46 = .ok (.aload_n 0, 1) := by decide +kernel
theorem dX3_addNode_47 : decode cX3_addNode 47 = .ok (.getfield 44, 3) := by decide +kernel
theorem dX3_addNode_50 : decode cX3_addNode 50 = .ok (.aload_n 0, 1) := by decide +kernel
theorem dX3_addNode_51 : decode cX3_addNode 51 = .ok (.getfield 64, 3) := by decide +kernel
theorem dX3_addNode_54 : decode cX3_addNode 54 = .ok (.iload_n 2, 1) := by decide +kernel
theorem dX3_addNode_55 : decode cX3_addNode 55 = .ok (.iload_n 1, 1) := by decide +kernel
theorem dX3_addNode_56 : decode cX3_addNode 56 = .ok (.invokevirtual 112, 3) := by decide +kernel
theorem dX3_addNode_59 : decode cX3_addNode 59 = .ok (.invokevirtual 115, 3) := by decide +kernel
theorem dX3_addNode_62 : decode cX3_addNode 62 = .ok (.aload_n 0, 1) := by decide +kernel
theorem dX3_addNode_63 : decode cX3_addNode 63 = .ok (.getfield 26, 3) := by decide +kernel
theorem dX3_addNode_66 : decode cX3_addNode 66 = .ok (.aload_n 0, 1) := by decide +kernel
theorem dX3_addNode_67 : decode cX3_addNode 67 = .ok (.getfield 44, 3) := by decide +kernel
theorem dX3_addNode_70 : decode cX3_addNode 70 = .ok (.iload_n 3, 1) := by decide +kernel
theorem dX3_addNode_71 : decode cX3_addNode 71 = .ok (.invokevirtual 115, 3) := by decide +kernel
theorem dX3_addNode_74 : decode cX3_addNode 74 = .ok (.aload_n 0, 1) := by decide +kernel
theorem dX3_addNode_75 : decode cX3_addNode 75 = .ok (.getfield 29, 3) := by decide +kernel
theorem dX3_addNode_78 : decode cX3_addNode 78 = .ok (.aload_n 0, 1) := by decide +kernel
theorem dX3_addNode_79 : decode cX3_addNode 79 = .ok (.getfield 44, 3) := by decide +kernel
theorem dX3_addNode_82 : decode cX3_addNode 82 = .ok (.iload_n 3, 1) := by decide +kernel
theorem dX3_addNode_83 : decode cX3_addNode 83 = .ok (.iconst (-1), 1) := by decide +kernel
theorem dX3_addNode_84 : decode cX3_addNode 84 = .ok (.if_icmp .ne 7, 3) := by decide +kernel
theorem dX3_addNode_87 : decode cX3_addNode 87 = .ok (.iconst 0, 1) := by decide +kernel
theorem dX3_addNode_88 : decode cX3_addNode 88 = .ok (.goto 13, 3) := by decide +kernel
theorem dX3_addNode_91 : decode cX3_addNode 91 = .ok (.aload_n 0, 1) := by decide +kernel
theorem dX3_addNode_92 : decode cX3_addNode 92 = .ok (.getfield 29, 3) := by decide +kernel
theorem dX3_addNode_95 : decode cX3_addNode 95 = .ok (.iload_n 3, 1) := by decide +kernel
theorem dX3_addNode_96 : decode cX3_addNode 96 = .ok (.invokevirtual 81, 3) := by decide +kernel
theorem dX3_addNode_99 : decode cX3_addNode 99 = .ok (.iconst 1, 1) := by decide +kernel
theorem dX3_addNode_100 : decode cX3_addNode 100 = .ok (.iadd, 1) := by decide +kernel
theorem dX3_addNode_101 : decode cX3_addNode 101 = .ok (.invokevirtual 115, 3) := by decide +kernel
theorem dX3_addNode_104 : decode cX3_addNode 104 = .ok (.aload_n 0, 1) := by decide +kernel
theorem dX3_addNode_105 : decode cX3_addNode 105 = .ok (.getfield 32, 3) := by decide +kernel
theorem dX3_addNode_108 : decode cX3_addNode 108 = .ok (.aload_n 0, 1) := by decide +kernel
theorem dX3_addNode_109 : decode cX3_addNode 109 = .ok (.getfield 44, 3) := by decide +kernel
theorem dX3_addNode_112 : decode cX3_addNode 112 = .ok (.iconst 0, 1) := by decide +kernel
theorem dX3_addNode_113 : decode cX3_addNode 113 = .ok (.invokevirtual 115, 3) := by decide +kernel
theorem dX3_addNode_116 : decode cX3_addNode 116 = .ok (.aload_n 0, 1) := by decide +kernel
theorem dX3_addNode_117 : decode cX3_addNode 117 = .ok (.getfield 35, 3) := by decide +kernel
theorem dX3_addNode_120 : decode cX3_addNode 120 = .ok (.aload_n 0, 1) := by decide +kernel
theorem dX3_addNode_121 : decode cX3_addNode 121 = .ok (.getfield 44, 3) := by decide +kernel
theorem dX3_addNode_124 : decode cX3_addNode 124 = .ok (.iconst (-1), 1) := by decide +kernel
theorem dX3_addNode_125 : decode cX3_addNode 125 = .ok (.invokevirtual 115, 3) := by decide +kernel
theorem dX3_addNode_128 : decode cX3_addNode 128 = .ok (.aload_n 0, 1) := by decide +kernel
theorem dX3_addNode_129 : decode cX3_addNode 129 = .ok (.dup, 1) := by decide +kernel
theorem dX3_addNode_130 : decode cX3_addNode 130 = .ok (.getfield 44, 3) := by decide +kernel
theorem dX3_addNode_133 : decode cX3_addNode 133 = .ok (.iconst 1, 1) := by decide +kernel
theorem dX3_addNode_134 : decode cX3_addNode 134 = .ok (.iadd, 1) := by decide +kernel
theorem dX3_addNode_135 : decode cX3_addNode 135 = .ok (.putfield 44, 3) := by decide +kernel
theorem dX3_addNode_138 : decode cX3_addNode 138 = .ok (.return_, 1) := by decide +kernel
theorem dX3_walkPattern_0 : decode cX3_walkPattern 0 = .ok (.aload_n 0, 1) := by decide +kernel
theorem dX3_walkPattern_1 : decode cX3_walkPattern 1 = .ok (.getfield 14, 3) := by decide +kernel
theorem dX3_walkPattern_4 : decode cX3_walkPattern 4 = .ok (.iload_n 1, 1) := by decide +kernel
theorem dX3_walkPattern_5 : decode cX3_walkPattern 5 = .ok (.invokevirtual 81, 3) := by decide +kernel
theorem dX3_walkPattern_8 : decode cX3_walkPattern 8 = .ok (.istore_n 2, 1) := by decide +kernel
theorem dX3_walkPattern_9 : decode cX3_walkPattern 9 = .ok (.aload_n 0, 1) := by decide +kernel
theorem dX3_walkPattern_10 : decode cX3_walkPattern 10 = .ok (.getfield 60, 3) := by decide +kernel
theorem dX3_walkPattern_13 : decode cX3_walkPattern 13 = .ok (.iload_n 2, 1) := by decide +kernel
theorem dX3_walkPattern_14 : decode cX3_walkPattern 14 = .ok (.invokevirtual 119, 3) := by decide +kernel
theorem dX3_walkPattern_17 : decode cX3_walkPattern 17 = .ok (.istore_n 3, 1) := by decide +kernel
theorem dX3_walkPattern_18 : decode cX3_walkPattern 18 = .ok (.aload_n 0, 1) := by decide +kernel
theorem dX3_walkPattern_19 : decode cX3_walkPattern 19 = .ok (.getfield 20, 3) := by decide +kernel
theorem dX3_walkPattern_22 : decode cX3_walkPattern 22 = .ok (.iload_n 1, 1) := by decide +kernel
theorem dX3_walkPattern_23 : decode cX3_walkPattern 23 = .ok (.invokevirtual 81, 3) := by decide +kernel
theorem dX3_walkPattern_26 : decode cX3_walkPattern 26 = .ok (.istore 4, 2) := by decide +kernel
theorem dX3_walkPattern_28 : decode cX3_walkPattern 28 = .ok (.iconst 0, 1) := by decide +kernel
theorem dX3_walkPattern_29 : decode cX3_walkPattern 29 = .ok (.istore 5, 2) := by decide +kernel
theorem dX3_walkPattern_31 : decode cX3_walkPattern 31 = .ok (.iload 5, 2) := by decide +kernel
theorem dX3_walkPattern_33 : decode cX3_walkPattern 33 = .ok (.iload_n 3, 1) := by decide +kernel
theorem dX3_walkPattern_34 : decode cX3_walkPattern 34 = .ok (.if_icmp .ge 115, 3) := by decide +kernel
theorem dX3_walkPattern_37 : decode cX3_walkPattern 37 = .ok (.aload_n 0, 1) := by decide +kernel
theorem dX3_walkPattern_38 : decode cX3_walkPattern 38 = .ok (.getfield 60, 3) := by decide +kernel
theorem dX3_walkPattern_41 : decode cX3_walkPattern 41 = .ok (.iload_n 2, 1) := by decide +kernel
theorem dX3_walkPattern_42 : decode cX3_walkPattern 42 = .ok (.iload 5, 2) := by decide +kernel
theorem dX3_walkPattern_44 : decode cX3_walkPattern 44 = .ok (.invokevirtual 122, 3) := by decide +kernel
theorem dX3_walkPattern_47 : decode cX3_walkPattern 47 = .ok (.istore 6, 2) := by decide +kernel
theorem dX3_walkPattern_49 : decode cX3_walkPattern 49 = .ok (.iload 4, 2) := by decide +kernel
theorem dX3_walkPattern_51 : decode cX3_walkPattern 51 = .ok (.istore 7, 2) := by decide +kernel
theorem dX3_walkPattern_53 : decode cX3_walkPattern 53 = .ok (.iload 6, 2) := by decide +kernel
theorem dX3_walkPattern_55 : decode cX3_walkPattern 55 = .ok (.bipush 126, 2) := by decide +kernel
theorem dX3_walkPattern_57 : decode cX3_walkPattern 57 = .ok (.if_icmp .ne 15, 3) := by decide +kernel
theorem dX3_walkPattern_60 : decode cX3_walkPattern 60 = .ok (.aload_n 0, 1) := by decide +kernel
theorem dX3_walkPattern_61 : decode cX3_walkPattern 61 = .ok (.iload_n 1, 1) := by decide +kernel
theorem dX3_walkPattern_62 : decode cX3_walkPattern 62 = .ok (.iload 5, 2) := by decide +kernel
theorem dX3_walkPattern_64 : decode cX3_walkPattern 64 = .ok (.iload 7, 2) := by decide +kernel
theorem dX3_walkPattern_66 : decode cX3_walkPattern 66 = .ok (.invokevirtual 125, 3) := by decide +kernel
theorem dX3_walkPattern_69 : decode cX3_walkPattern 69 = .ok (.goto 14, 3) := by decide +kernel
theorem dX3_walkPattern_72 : decode cX3_walkPattern 72 = .ok (.aload_n 0, 1) := by decide +kernel
theorem dX3_walkPattern_73 : decode cX3_walkPattern 73 = .ok (.getfield 64, 3) := by decide +kernel
theorem dX3_walkPattern_76 : decode cX3_walkPattern 76 = .ok (.iload 6, 2) := by decide +kernel
theorem dX3_walkPattern_78 : decode cX3_walkPattern 78 = .ok (.iload 7, 2) := by decide +kernel
theorem dX3_walkPattern_80 : decode cX3_walkPattern 80 = .ok (.invokevirtual 129, 3) := by decide +kernel
theorem dX3_walkPattern_83 : decode cX3_walkPattern 83 = .ok (.istore 4, 2) := by decide +kernel
theorem dX3_walkPattern_85 : decode cX3_walkPattern 85 = .ok (.iload 6, 2) := by decide +kernel
theorem dX3_walkPattern_87 : decode cX3_walkPattern 87 = .ok (.invokestatic 132, 3) := by decide +kernel
theorem dX3_walkPattern_90 : decode cX3_walkPattern 90 = .ok (.ifCond .eq 15, 3) := by decide +kernel
theorem dX3_walkPattern_93 : decode cX3_walkPattern 93 = .ok (.aload_n 0, 1) := by decide +kernel
theorem dX3_walkPattern_94 : decode cX3_walkPattern 94 = .ok (.iload 7, 2) := by decide +kernel
theorem dX3_walkPattern_96 : decode cX3_walkPattern 96 = .ok (.iload 6, 2) := by decide +kernel
theorem dX3_walkPattern_98 : decode cX3_walkPattern 98 = .ok (.bipush 65, 2) := by decide +kernel
theorem dX3_walkPattern_100 : decode cX3_walkPattern 100 = .ok (.isub, 1) := by decide +kernel
theorem dX3_walkPattern_101 : decode cX3_walkPattern 101 = .ok (.iload_n 1, 1) := by decide +kernel
theorem dX3_walkPattern_102 : decode cX3_walkPattern 102 = .ok (.invokevirtual 108, 3) := by decide +kernel
theorem dX3_walkPattern_105 : decode cX3_walkPattern 105 = .ok (.iload 6, 2) := by decide +kernel
theorem dX3_walkPattern_107 : decode cX3_walkPattern 107 = .ok (.bipush 35, 2) := by decide +kernel
theorem dX3_walkPattern_109 : decode cX3_walkPattern 109 = .ok (.if_icmp .ne 34, 3) := by decide +kernel
theorem dX3_walkPattern_112 : decode cX3_walkPattern 112 = .ok (.aload_n 0, 1) := by decide +kernel
theorem dX3_walkPattern_113 : decode cX3_walkPattern 113 = .ok (.getfield 35, 3) := by decide +kernel
theorem dX3_walkPattern_116 : decode cX3_walkPattern 116 = .ok (.iload_n 1, 1) := by decide +kernel
theorem dX3_walkPattern_117 : decode cX3_walkPattern 117 = .ok (.invokevirtual 81, 3) := by decide +kernel
theorem dX3_walkPattern_120 : decode cX3_walkPattern 120 = .ok (.iconst (-1), 1) := by decide +kernel
theorem dX3_walkPattern_121 : decode cX3_walkPattern 121 = .ok (.if_icmp .ne 22, 3) := by decide +kernel
theorem dX3_walkPattern_124 : decode cX3_walkPattern 124 = .ok (.aload_n 0, 1) := by decide +kernel
theorem dX3_walkPattern_125 : decode cX3_walkPattern 125 = .ok (.getfield 35, 3) := by decide +kernel
theorem dX3_walkPattern_128 : decode cX3_walkPattern 128 = .ok (.iload_n 1, 1) := by decide +kernel
theorem dX3_walkPattern_129 : decode cX3_walkPattern 129 = .ok (.aload_n 0, 1) := by decide +kernel
theorem dX3_walkPattern_130 : decode cX3_walkPattern 130 = .ok (.getfield 60, 3) := by decide +kernel
theorem dX3_walkPattern_133 : decode cX3_walkPattern 133 = .ok (.iload 7, 2) := by decide +kernel
theorem dX3_walkPattern_135 : decode cX3_walkPattern 135 = .ok (.iload 4, 2) := by decide +kernel
theorem dX3_walkPattern_137 : decode cX3_walkPattern 137 = .ok (.invokevirtual 136, 3) := by decide +kernel
theorem dX3_walkPattern_140 : decode cX3_walkPattern 140 = .ok (.invokevirtual 115, 3) := by decide +kernel
theorem dX3_walkPattern_143 : decode cX3_walkPattern 143 = .ok (.iinc 5 1, 3) := by decide +kernel
theorem dX3_walkPattern_146 : decode cX3_walkPattern 146 = .ok (.goto (-115), 3) := by decide +kernel
theorem dX3_walkPattern_149 : decode cX3_walkPattern 149 = .ok (.return_, 1) := by decide +kernel
theorem dX3_walkWater_0 : decode cX3_walkWater 0 = .ok (.aload_n 0, 1) := by decide +kernel
theorem dX3_walkWater_1 : decode cX3_walkWater 1 = .ok (.getfield 14, 3) := by decide +kernel
theorem dX3_walkWater_4 : decode cX3_walkWater 4 = .ok (.iload_n 1, 1) := by decide +kernel
theorem dX3_walkWater_5 : decode cX3_walkWater 5 = .ok (.invokevirtual 81, 3) := by decide +kernel
theorem dX3_walkWater_8 : decode cX3_walkWater 8 = .ok (.istore 4, 2) := by decide +kernel
theorem dX3_walkWater_10 : decode cX3_walkWater 10 = .ok (.iload_n 3, 1) := by decide +kernel
theorem dX3_walkWater_11 : decode cX3_walkWater 11 = .ok (.istore 5, 2) := by decide +kernel
theorem dX3_walkWater_13 : decode cX3_walkWater 13 = .ok (.iconst 0, 1) := by decide +kernel
theorem dX3_walkWater_14 : decode cX3_walkWater 14 = .ok (.istore 6, 2) := by decide +kernel
theorem dX3_walkWater_16 : decode cX3_walkWater 16 = .ok (.iload 6, 2) := by decide +kernel
theorem dX3_walkWater_18 : decode cX3_walkWater 18 = .ok (.bipush 100, 2) := by decide +kernel
theorem dX3_walkWater_20 : decode cX3_walkWater 20 = .ok (.if_icmp .ge 92, 3) := by decide +kernel
theorem dX3_walkWater_23 : decode cX3_walkWater 23 = .ok (.aload_n 0, 1) := by decide +kernel
theorem dX3_walkWater_24 : decode cX3_walkWater 24 = .ok (.getfield 64, 3) := by decide +kernel
theorem dX3_walkWater_27 : decode cX3_walkWater 27 = .ok (.iload 4, 2) := by decide +kernel
theorem dX3_walkWater_29 : decode cX3_walkWater 29 = .ok (.iload_n 2, 1) := by decide +kernel
theorem dX3_walkWater_30 : decode cX3_walkWater 30 = .ok (.iconst 1, 1) := by decide +kernel
theorem dX3_walkWater_31 : decode cX3_walkWater 31 = .ok (.iadd, 1) := by decide +kernel
theorem dX3_walkWater_32 : decode cX3_walkWater 32 = .ok (.iload 5, 2) := by decide +kernel
theorem dX3_walkWater_34 : decode cX3_walkWater 34 = .ok (.invokevirtual 139, 3) := by decide +kernel
theorem dX3_walkWater_37 : decode cX3_walkWater 37 = .ok (.ifCond .eq 6, 3) := by decide +kernel
theorem dX3_walkWater_40 : decode cX3_walkWater 40 = .ok (.goto 72, 3) := by decide +kernel
theorem dX3_walkWater_43 : decode cX3_walkWater 43 = .ok (.aload_n 0, 1) := by decide +kernel
theorem dX3_walkWater_44 : decode cX3_walkWater 44 = .ok (.getfield 64, 3) := by decide +kernel
theorem dX3_walkWater_47 : decode cX3_walkWater 47 = .ok (.iload 5, 2) := by decide +kernel
theorem dX3_walkWater_49 : decode cX3_walkWater 49 = .ok (.invokevirtual 97, 3) := by decide +kernel
theorem dX3_walkWater_52 : decode cX3_walkWater 52 = .ok (.istore 7, 2) := by decide +kernel
theorem dX3_walkWater_54 : decode cX3_walkWater 54 = .ok (.iload 7, 2) := by decide +kernel
theorem dX3_walkWater_56 : decode cX3_walkWater 56 = .ok (.iconst (-1), 1) := by decide +kernel
theorem dX3_walkWater_57 : decode cX3_walkWater 57 = .ok (.if_icmp .ne 27, 3) := by decide +kernel
theorem dX3_walkWater_60 : decode cX3_walkWater 60 = .ok (.aload_n 0, 1) := by decide +kernel
theorem dX3_walkWater_61 : decode cX3_walkWater 61 = .ok (.getfield 32, 3) := by decide +kernel
theorem dX3_walkWater_64 : decode cX3_walkWater 64 = .ok (.iload_n 1, 1) := by decide +kernel
theorem dX3_walkWater_65 : decode cX3_walkWater 65 = .ok (.aload_n 0, 1) := by decide +kernel
theorem dX3_walkWater_66 : decode cX3_walkWater 66 = .ok (.getfield 32, 3) := by decide +kernel
theorem dX3_walkWater_69 : decode cX3_walkWater 69 = .ok (.iload_n 1, 1) := by decide +kernel
theorem dX3_walkWater_70 : decode cX3_walkWater 70 = .ok (.invokevirtual 81, 3) := by decide +kernel
theorem dX3_walkWater_73 : decode cX3_walkWater 73 = .ok (.iconst 1, 1) := by decide +kernel
theorem dX3_walkWater_74 : decode cX3_walkWater 74 = .ok (.iadd, 1) := by decide +kernel
theorem dX3_walkWater_75 : decode cX3_walkWater 75 = .ok (.invokevirtual 115, 3) := by decide +kernel
theorem dX3_walkWater_78 : decode cX3_walkWater 78 = .ok (.iinc 5 1, 3) := by decide +kernel
theorem dX3_walkWater_81 : decode cX3_walkWater 81 = .ok (.goto 25, 3) := by decide +kernel
theorem dX3_walkWater_84 : decode cX3_walkWater 84 = .ok (.aload_n 0, 1) := by decide +kernel
theorem dX3_walkWater_85 : decode cX3_walkWater 85 = .ok (.iload 5, 2) := by decide +kernel
theorem dX3_walkWater_87 : decode cX3_walkWater 87 = .ok (.iload 7, 2) := by decide +kernel
theorem dX3_walkWater_89 : decode cX3_walkWater 89 = .ok (.iload_n 1, 1) := by decide +kernel
theorem dX3_walkWater_90 : decode cX3_walkWater 90 = .ok (.invokevirtual 108, 3) := by decide +kernel
theorem dX3_walkWater_93 : decode cX3_walkWater 93 = .ok (.aload_n 0, 1) := by decide +kernel
theorem dX3_walkWater_94 : decode cX3_walkWater 94 = .ok (.getfield 64, 3) := by decide +kernel
theorem dX3_walkWater_97 : decode cX3_walkWater 97 = .ok (.iload 7, 2) := by decide +kernel
theorem dX3_walkWater_99 : decode cX3_walkWater 99 = .ok (.iload 5, 2) := by decide +kernel
theorem dX3_walkWater_101 : decode cX3_walkWater 101 = .ok (.invokevirtual 112, 3) := by decide +kernel
theorem dX3_walkWater_104 : decode cX3_walkWater 104 = .ok (.istore 5, 2) := by decide +kernel
theorem dX3_walkWater_106 : decode cX3_walkWater 106 = .ok (.iinc 6 1, 3) := by decide +kernel
theorem dX3_walkWater_109 : decode cX3_walkWater 109 = .ok (.goto (-93), 3) := by decide +kernel
theorem dX3_walkWater_112 : decode cX3_walkWater 112 = .ok (.iload 5, 2) := by decide +kernel
theorem dX3_walkWater_114 : decode cX3_walkWater 114 = .ok (.ireturn, 1) := by decide +kernel
theorem dX4_init_0 : decode cX4_init 0 = .ok (.aload_n 0, 1) := by decide +kernel
theorem dX4_init_1 : decode cX4_init 1 = .ok (.invokespecial 3, 3) := by decide +kernel
theorem dX4_init_4 : decode cX4_init 4 = .ok (.aload_n 0, 1) := by decide +kernel
theorem dX4_init_5 : decode cX4_init 5 = .ok (.iload_n 1, 1) := by decide +kernel
theorem dX4_init_6 : decode cX4_init 6 = .ok (.ifCond .le 7, 3) := by decide +kernel
theorem dX4_init_9 : decode cX4_init 9 = .ok (.iload_n 1, 1) := by decide +kernel
theorem dX4_init_10 : decode cX4_init 10 = .ok (.goto 4, 3) := by decide +kernel
theorem dX4_init_13 : decode cX4_init 13 = .ok (.iconst 0, 1) := by decide +kernel
theorem dX4_init_14 : decode cX4_init 14 = .ok (.newarray .int, 2) := by decide +kernel
theorem dX4_init_16 : decode cX4_init 16 = .ok (.putfield 9, 3) := by decide +kernel
theorem dX4_init_19 : decode cX4_init 19 = .ok (.return_, 1) := by decide +kernel
theorem dX4_get_0 : decode cX4_get 0 = .ok (.iload_n 1, 1) := by decide +kernel
theorem dX4_get_1 : decode cX4_get 1 = .ok (.ifCond .lt 21, 3) := by decide +kernel
theorem dX4_get_4 : decode cX4_get 4 = .ok (.iload_n 1, 1) := by decide +kernel
theorem dX4_get_5 : decode cX4_get 5 = .ok (.aload_n 0, 1) := by decide +kernel
theorem dX4_get_6 : decode cX4_get 6 = .ok (.getfield 9, 3) := by decide +kernel
theorem dX4_get_9 : decode cX4_get 9 = .ok (.arraylength, 1) := by decide +kernel
theorem dX4_get_10 : decode cX4_get 10 = .ok (.if_icmp .ge 12, 3) := by decide +kernel
theorem dX4_get_13 : decode cX4_get 13 = .ok (.aload_n 0, 1) := by decide +kernel
theorem dX4_get_14 : decode cX4_get 14 = .ok (.getfield 9, 3) := by decide +kernel
theorem dX4_get_17 : decode cX4_get 17 = .ok (.iload_n 1, 1) := by decide +kernel
theorem dX4_get_18 : decode cX4_get 18 = .ok (.iaload, 1) := by decide +kernel
theorem dX4_get_19 : decode cX4_get 19 = .ok (.goto 4, 3) := by decide +kernel
theorem dX4_get_22 : decode cX4_get 22 = .ok (.iconst (-1), 1) := by decide +kernel
theorem dX4_get_23 : decode cX4_get 23 = .ok (.ireturn, 1) := by decide +kernel
theorem dX4_set_0 : decode cX4_set 0 = .ok (.iload_n 1, 1) := by decide +kernel
theorem dX4_set_1 : decode cX4_set 1 = .ok (.ifCond .lt 19, 3) := by decide +kernel
theorem dX4_set_4 : decode cX4_set 4 = .ok (.iload_n 1, 1) := by decide +kernel
theorem dX4_set_5 : decode cX4_set 5 = .ok (.aload_n 0, 1) := by decide +kernel
theorem dX4_set_6 : decode cX4_set 6 = .ok (.getfield 9, 3) := by decide +kernel
theorem dX4_set_9 : decode cX4_set 9 = .ok (.arraylength, 1) := by decide +kernel
theorem dX4_set_10 : decode cX4_set 10 = .ok (.if_icmp .ge 10, 3) := by decide +kernel
theorem dX4_set_13 : decode cX4_set 13 = .ok (.aload_n 0, 1) := by decide +kernel
theorem dX4_set_14 : decode cX4_set 14 = .ok (.getfield 9, 3) := by decide +kernel
theorem dX4_set_17 : decode cX4_set 17 = .ok (.iload_n 1, 1) := by decide +kernel
theorem dX4_set_18 : decode cX4_set 18 = .ok (.iload_n 2, 1) := by decide +kernel
theorem dX4_set_19 : decode cX4_set 19 = .ok (.iastore, 1) := by decide +kernel
theorem dX4_set_20 : decode cX4_set 20 = .ok (.return_, 1) := by decide +kernel
theorem dX4_fill_0 : decode cX4_fill 0 = .ok (.iconst 0, 1) := by decide +kernel
theorem dX4_fill_1 : decode cX4_fill 1 = .ok (.istore_n 2, 1) := by decide +kernel
theorem dX4_fill_2 : decode cX4_fill 2 = .ok (.iload_n 2, 1) := by decide +kernel
theorem dX4_fill_3 : decode cX4_fill 3 = .ok (.aload_n 0, 1) := by decide +kernel
theorem dX4_fill_4 : decode cX4_fill 4 = .ok (.getfield 9, 3) := by decide +kernel
theorem dX4_fill_7 : decode cX4_fill 7 = .ok (.arraylength, 1) := by decide +kernel
theorem dX4_fill_8 : decode cX4_fill 8 = .ok (.if_icmp .ge 16, 3) := by decide +kernel
theorem dX4_fill_11 : decode cX4_fill 11 = .ok (.aload_n 0, 1) := by decide +kernel
theorem dX4_fill_12 : decode cX4_fill 12 = .ok (.getfield 9, 3) := by decide +kernel
theorem dX4_fill_15 : decode cX4_fill 15 = .ok (.iload_n 2, 1) := by decide +kernel
theorem dX4_fill_16 : decode cX4_fill 16 = .ok (.iload_n 1, 1) := by decide +kernel
theorem dX4_fill_17 : decode cX4_fill 17 = .ok (.iastore, 1) := by decide +kernel
theorem dX4_fill_18 : decode cX4_fill 18 = .ok (.iinc 2 1, 3) := by decide +kernel
theorem dX4_fill_21 : decode cX4_fill 21 = .ok (.goto (-19), 3) := by decide +kernel
theorem dX4_fill_24 : decode cX4_fill 24 = .ok (.return_, 1) := by decide +kernel
theorem dX4_copyFrom_0 : decode cX4_copyFrom 0 = .ok (.aload_n 0, 1) := by decide +kernel
theorem dX4_copyFrom_1 : decode cX4_copyFrom 1 = .ok (.getfield 9, 3) := by decide +kernel
theorem dX4_copyFrom_4 : decode cX4_copyFrom 4 = .ok (.arraylength, 1) := by decide +kernel
theorem dX4_copyFrom_5 : decode cX4_copyFrom 5 = .ok (.aload_n 1, 1) := by decide +kernel
theorem dX4_copyFrom_6 : decode cX4_copyFrom 6 = .ok (.getfield 9, 3) := by decide +kernel
theorem dX4_copyFrom_9 : decode cX4_copyFrom 9 = .ok (.arraylength, 1) := by decide +kernel
theorem dX4_copyFrom_10 : decode cX4_copyFrom 10 = .ok (.invokestatic 15, 3) := by decide +kernel
theorem dX4_copyFrom_13 : decode cX4_copyFrom 13 = .ok (.istore_n 2, 1) := by decide +kernel
theorem dX4_copyFrom_14 : decode cX4_copyFrom 14 = .ok (.iconst 0, 1) := by decide +kernel
theorem dX4_copyFrom_15 : decode cX4_copyFrom 15 = .ok (.istore_n 3, 1) := by decide +kernel
theorem dX4_copyFrom_16 : decode cX4_copyFrom 16 = .ok (.iload_n 3, 1) := by decide +kernel
theorem dX4_copyFrom_17 : decode cX4_copyFrom 17 = .ok (.iload_n 2, 1) := by decide +kernel
theorem dX4_copyFrom_18 : decode cX4_copyFrom 18 = .ok (.if_icmp .ge 21, 3) := by decide +kernel
theorem dX4_copyFrom_21 : decode cX4_copyFrom 21 = .ok (.aload_n 0, 1) := by decide +kernel
theorem dX4_copyFrom_22 : decode cX4_copyFrom 22 = .ok (.getfield 9, 3) := by decide +kernel
theorem dX4_copyFrom_25 : decode cX4_copyFrom 25 = .ok (.iload_n 3, 1) := by decide +kernel
theorem dX4_copyFrom_26 : decode cX4_copyFrom 26 = .ok (.aload_n 1, 1) := by decide +kernel
theorem dX4_copyFrom_27 : decode cX4_copyFrom 27 = .ok (.getfield 9, 3) := by decide +kernel
theorem dX4_copyFrom_30 : decode cX4_copyFrom 30 = .ok (.iload_n 3, 1) := by decide +kernel
theorem dX4_copyFrom_31 : decode cX4_copyFrom 31 = .ok (.iaload, 1) := by decide +kernel
theorem dX4_copyFrom_32 : decode cX4_copyFrom 32 = .ok (.iastore, 1) := by decide +kernel
theorem dX4_copyFrom_33 : decode cX4_copyFrom 33 = .ok (.iinc 3 1, 3) := by decide +kernel
theorem dX4_copyFrom_36 : decode cX4_copyFrom 36 = .ok (.goto (-20), 3) := by decide +kernel
theorem dX4_copyFrom_39 : decode cX4_copyFrom 39 = .ok (.return_, 1) := by decide +kernel
theorem dX4_mixInto_0 : decode cX4_mixInto 0 = .ok (.lload_n 1, 1) := by decide +kernel
theorem dX4_mixInto_1 : decode cX4_mixInto 1 = .ok (.lstore 5, 2) := by decide +kernel
theorem dX4_mixInto_3 : decode cX4_mixInto 3 = .ok (.iconst 0, 1) := by decide +kernel
theorem dX4_mixInto_4 : decode cX4_mixInto 4 = .ok (.istore 7, 2) := by decide +kernel
theorem dX4_mixInto_6 : decode cX4_mixInto 6 = .ok (.iload 7, 2) := by decide +kernel
theorem dX4_mixInto_8 : decode cX4_mixInto 8 = .ok (.iload 4, 2) := by decide +kernel
theorem dX4_mixInto_10 : decode cX4_mixInto 10 = .ok (.if_icmp .ge 25, 3) := by decide +kernel
theorem dX4_mixInto_13 : decode cX4_mixInto 13 = .ok (.lload 5, 2) := by decide +kernel
theorem dX4_mixInto_15 : decode cX4_mixInto 15 = .ok (.aload_n 0, 1) := by decide +kernel
theorem dX4_mixInto_16 : decode cX4_mixInto 16 = .ok (.iload_n 3, 1) := by decide +kernel
theorem dX4_mixInto_17 : decode cX4_mixInto 17 = .ok (.iload 7, 2) := by decide +kernel
theorem dX4_mixInto_19 : decode cX4_mixInto 19 = .ok (.iadd, 1) := by decide +kernel
theorem dX4_mixInto_20 : decode cX4_mixInto 20 = .ok (.invokevirtual 21, 3) := by decide +kernel
theorem dX4_mixInto_23 : decode cX4_mixInto 23 = .ok (.i2l, 1) := by decide +kernel
theorem dX4_mixInto_24 : decode cX4_mixInto 24 = .ok (.invokestatic 25, 3) := by decide +kernel
theorem dX4_mixInto_27 : decode cX4_mixInto 27 = .ok (.lstore 5, 2) := by decide +kernel
theorem dX4_mixInto_29 : decode cX4_mixInto 29 = .ok (.iinc 7 1, 3) := by decide +kernel
theorem dX4_mixInto_32 : decode cX4_mixInto 32 = .ok (.goto (-26), 3) := by decide +kernel
theorem dX4_mixInto_35 : decode cX4_mixInto 35 = .ok (.lload 5, 2) := by decide +kernel
theorem dX4_mixInto_37 : decode cX4_mixInto 37 = .ok (.lreturn, 1) := by decide +kernel
theorem dX5_init_0 : decode cX5_init 0 = .ok (.aload_n 0, 1) := by decide +kernel
theorem dX5_init_1 : decode cX5_init 1 = .ok (.invokespecial 3, 3) := by decide +kernel
theorem dX5_init_4 : decode cX5_init 4 = .ok (.aload_n 0, 1) := by decide +kernel
theorem dX5_init_5 : decode cX5_init 5 = .ok (.new 9, 3) := by decide +kernel
theorem dX5_init_8 : decode cX5_init 8 = .ok (.dup, 1) := by decide +kernel
theorem dX5_init_9 : decode cX5_init 9 = .ok (.bipush 100, 2) := by decide +kernel
theorem dX5_init_11 : decode cX5_init 11 = .ok (.invokespecial 11, 3) := by decide +kernel
theorem dX5_init_14 : decode cX5_init 14 = .ok (.putfield 14, 3) := by decide +kernel
theorem dX5_init_17 : decode cX5_init 17 = .ok (.aload_n 0, 1) := by decide +kernel
theorem dX5_init_18 : decode cX5_init 18 = .ok (.new 9, 3) := by decide +kernel
theorem dX5_init_21 : decode cX5_init 21 = .ok (.dup, 1) := by decide +kernel
theorem dX5_init_22 : decode cX5_init 22 = .ok (.bipush 6, 2) := by decide +kernel
theorem dX5_init_24 : decode cX5_init 24 = .ok (.invokespecial 11, 3) := by decide +kernel
theorem dX5_init_27 : decode cX5_init 27 = .ok (.putfield 20, 3) := by decide +kernel
theorem dX5_init_30 : decode cX5_init 30 = .ok (.aload_n 0, 1) := by decide +kernel
theorem dX5_init_31 : decode cX5_init 31 = .ok (.new 9, 3) := by decide +kernel
theorem dX5_init_34 : decode cX5_init 34 = .ok (.dup, 1) := by decide +kernel
theorem dX5_init_35 : decode cX5_init 35 = .ok (.bipush 48, 2) := by decide +kernel
theorem dX5_init_37 : decode cX5_init 37 = .ok (.invokespecial 11, 3) := by decide +kernel
theorem dX5_init_40 : decode cX5_init 40 = .ok (.putfield 23, 3) := by decide +kernel
theorem dX5_init_43 : decode cX5_init 43 = .ok (.aload_n 0, 1) := by decide +kernel
theorem dX5_init_44 : decode cX5_init 44 = .ok (.new 9, 3) := by decide +kernel
theorem dX5_init_47 : decode cX5_init 47 = .ok (.dup, 1) := by decide +kernel
theorem dX5_init_48 : decode cX5_init 48 = .ok (.bipush 6, 2) := by decide +kernel
theorem dX5_init_50 : decode cX5_init 50 = .ok (.invokespecial 11, 3) := by decide +kernel
theorem dX5_init_53 : decode cX5_init 53 = .ok (.putfield 26, 3) := by decide +kernel
theorem dX5_init_56 : decode cX5_init 56 = .ok (.aload_n 0, 1) := by decide +kernel
theorem dX5_init_57 : decode cX5_init 57 = .ok (.iconst 0, 1) := by decide +kernel
theorem dX5_init_58 : decode cX5_init 58 = .ok (.putfield 29, 3) := by decide +kernel
theorem dX5_init_61 : decode cX5_init 61 = .ok (.aload_n 0, 1) := by decide +kernel
theorem dX5_init_62 : decode cX5_init 62 = .ok (.getfield 26, 3) := by decide +kernel
theorem dX5_init_65 : decode cX5_init 65 = .ok (.iconst (-1), 1) := by decide +kernel
theorem dX5_init_66 : decode cX5_init 66 = .ok (.invokevirtual 33, 3) := by decide +kernel
theorem dX5_init_69 : decode cX5_init 69 = .ok (.return_, 1) := by decide +kernel
theorem dX5_textSize_0 : decode cX5_textSize 0 = .ok (.aload_n 0, 1) := by decide +kernel
theorem dX5_textSize_1 : decode cX5_textSize 1 = .ok (.getfield 29, 3) := by decide +kernel
theorem dX5_textSize_4 : decode cX5_textSize 4 = .ok (.ireturn, 1) := by decide +kernel
theorem dX5_textAt_0 : decode cX5_textAt 0 = .ok (.iload_n 1, 1) := by decide +kernel
theorem dX5_textAt_1 : decode cX5_textAt 1 = .ok (.aload_n 0, 1) := by decide +kernel
theorem dX5_textAt_2 : decode cX5_textAt 2 = .ok (.getfield 29, 3) := by decide +kernel
theorem dX5_textAt_5 : decode cX5_textAt 5 = .ok (.if_icmp .ge 14, 3) := by decide +kernel
theorem dX5_textAt_8 : decode cX5_textAt 8 = .ok (.aload_n 0, 1) := by decide +kernel
theorem dX5_textAt_9 : decode cX5_textAt 9 = .ok (.getfield 14, 3) := by decide +kernel
theorem dX5_textAt_12 : decode cX5_textAt 12 = .ok (.iload_n 1, 1) := by decide +kernel
theorem dX5_textAt_13 : decode cX5_textAt 13 = .ok (.invokevirtual 36, 3) := by decide +kernel
theorem dX5_textAt_16 : decode cX5_textAt 16 = .ok (.goto 4, 3) := by decide +kernel
theorem dX5_textAt_19 : decode cX5_textAt 19 = .ok (.iconst (-1), 1) := by decide +kernel
theorem dX5_textAt_20 : decode cX5_textAt 20 = .ok (.ireturn, 1) := by decide +kernel
theorem dX5_insertByte_0 : decode cX5_insertByte 0 = .ok (.aload_n 0, 1) := by decide +kernel
theorem dX5_insertByte_1 : decode cX5_insertByte 1 = .ok (.getfield 29, 3) := by decide +kernel
theorem dX5_insertByte_4 : decode cX5_insertByte 4 = .ok (.istore_n 3, 1) := by decide +kernel
theorem dX5_insertByte_5 : decode cX5_insertByte 5 = .ok (.iload_n 3, 1) := by decide +kernel
theorem dX5_insertByte_6 : decode cX5_insertByte 6 = .ok (.iload_n 1, 1) := by decide +kernel
theorem dX5_insertByte_7 : decode cX5_insertByte 7 = .ok (.if_icmp .le 27, 3) := by decide +kernel
theorem dX5_insertByte_10 : decode cX5_insertByte 10 = .ok (.aload_n 0, 1) := by decide +kernel
theorem dX5_insertByte_11 : decode cX5_insertByte 11 = .ok (.getfield 14, 3) := by decide +kernel
theorem dX5_insertByte_14 : decode cX5_insertByte 14 = .ok (.iload_n 3, 1) := by decide +kernel
theorem dX5_insertByte_15 : decode cX5_insertByte 15 = .ok (.aload_n 0, 1) := by decide +kernel
theorem dX5_insertByte_16 : decode cX5_insertByte 16 = .ok (.getfield 14, 3) := by decide +kernel
theorem dX5_insertByte_19 : decode cX5_insertByte 19 = .ok (.iload_n 3, 1) := by decide +kernel
theorem dX5_insertByte_20 : decode cX5_insertByte 20 = .ok (.iconst 1, 1) := by decide +kernel
theorem dX5_insertByte_21 : decode cX5_insertByte 21 = .ok (.isub, 1) := by decide +kernel
theorem dX5_insertByte_22 : decode cX5_insertByte 22 = .ok (.invokevirtual 36, 3) := by decide +kernel
theorem dX5_insertByte_25 : decode cX5_insertByte 25 = .ok (.invokevirtual 40, 3) := by decide +kernel
theorem dX5_insertByte_28 : decode cX5_insertByte 28 = .ok (.iinc 3 (-1), 3) := by decide +kernel
theorem dX5_insertByte_31 : decode cX5_insertByte 31 = .ok (.goto (-26), 3) := by decide +kernel
theorem dX5_insertByte_34 : decode cX5_insertByte 34 = .ok (.aload_n 0, 1) := by decide +kernel
theorem dX5_insertByte_35 : decode cX5_insertByte 35 = .ok (.getfield 14, 3) := by decide +kernel
theorem dX5_insertByte_38 : decode cX5_insertByte 38 = .ok (.iload_n 1, 1) := by decide +kernel
theorem dX5_insertByte_39 : decode cX5_insertByte 39 = .ok (.iload_n 2, 1) := by decide +kernel
theorem dX5_insertByte_40 : decode cX5_insertByte 40 = .ok (.invokevirtual 40, 3) := by decide +kernel
theorem dX5_insertByte_43 : decode cX5_insertByte 43 = .ok (.aload_n 0, 1) := by decide +kernel
theorem dX5_insertByte_44 : decode cX5_insertByte 44 = .ok (.dup, 1) := by decide +kernel
theorem dX5_insertByte_45 : decode cX5_insertByte 45 = .ok (.getfield 29, 3) := by decide +kernel
theorem dX5_insertByte_48 : decode cX5_insertByte 48 = .ok (.iconst 1, 1) := by decide +kernel
theorem dX5_insertByte_49 : decode cX5_insertByte 49 = .ok (.iadd, 1) := by decide +kernel
theorem dX5_insertByte_50 : decode cX5_insertByte 50 = .ok (.putfield 29, 3) := by decide +kernel
theorem dX5_insertByte_53 : decode cX5_insertByte 53 = .ok (.return_, 1) := by decide +kernel
theorem dX5_setByte_0 : decode cX5_setByte 0 = .ok (.aload_n 0, 1) := by decide +kernel
theorem dX5_setByte_1 : decode cX5_setByte 1 = .ok (.getfield 14, 3) := by decide +kernel
theorem dX5_setByte_4 : decode cX5_setByte 4 = .ok (.iload_n 1, 1) := by decide +kernel
theorem dX5_setByte_5 : decode cX5_setByte 5 = .ok (.iload_n 2, 1) := by decide +kernel
theorem dX5_setByte_6 : decode cX5_setByte 6 = .ok (.invokevirtual 40, 3) := by decide +kernel
theorem dX5_setByte_9 : decode cX5_setByte 9 = .ok (.return_, 1) := by decide +kernel
theorem dX5_removeBytes_0 : decode cX5_removeBytes 0 = .ok (.aload_n 0, 1) := by decide +kernel
theorem dX5_removeBytes_1 : decode cX5_removeBytes 1 = .ok (.dup, 1) := by decide +kernel
theorem dX5_removeBytes_2 : decode cX5_removeBytes 2 = .ok (.getfield 29, 3) := by decide +kernel
theorem dX5_removeBytes_5 : decode cX5_removeBytes 5 = .ok (.iload_n 2, 1) := by decide +kernel
theorem dX5_removeBytes_6 : decode cX5_removeBytes 6 = .ok (.isub, 1) := by decide +kernel
theorem dX5_removeBytes_7 : decode cX5_removeBytes 7 = .ok (.putfield 29, 3) := by decide +kernel
theorem dX5_removeBytes_10 : decode cX5_removeBytes 10 = .ok (.iload_n 1, 1) := by decide +kernel
theorem dX5_removeBytes_11 : decode cX5_removeBytes 11 = .ok (.istore_n 3, 1) := by decide +kernel
theorem dX5_removeBytes_12 : decode cX5_removeBytes 12 = .ok (.iload_n 3, 1) := by decide +kernel
theorem dX5_removeBytes_13 : decode cX5_removeBytes 13 = .ok (.aload_n 0, 1) := by decide +kernel
theorem dX5_removeBytes_14 : decode cX5_removeBytes 14 = .ok (.getfield 29, 3) := by decide +kernel
theorem dX5_removeBytes_17 : decode cX5_removeBytes 17 = .ok (.if_icmp .ge 27, 3) := by decide +kernel
theorem dX5_removeBytes_20 : decode cX5_removeBytes 20 = .ok (.aload_n 0, 1) := by decide +kernel
theorem dX5_removeBytes_21 : decode cX5_removeBytes 21 = .ok (.getfield 14, 3) := by decide +kernel
theorem dX5_removeBytes_24 : decode cX5_removeBytes 24 = .ok (.iload_n 3, 1) := by decide +kernel
theorem dX5_removeBytes_25 : decode cX5_removeBytes 25 = .ok (.aload_n 0, 1) := by decide +kernel
theorem dX5_removeBytes_26 : decode cX5_removeBytes 26 = .ok (.getfield 14, 3) := by decide +kernel
theorem dX5_removeBytes_29 : decode cX5_removeBytes 29 = .ok (.iload_n 3, 1) := by decide +kernel
theorem dX5_removeBytes_30 : decode cX5_removeBytes 30 = .ok (.iload_n 2, 1) := by decide +kernel
theorem dX5_removeBytes_31 : decode cX5_removeBytes 31 = .ok (.iadd, 1) := by decide +kernel
theorem dX5_removeBytes_32 : decode cX5_removeBytes 32 = .ok (.invokevirtual 36, 3) := by decide +kernel
theorem dX5_removeBytes_35 : decode cX5_removeBytes 35 = .ok (.invokevirtual 40, 3) := by decide +kernel
theorem dX5_removeBytes_38 : decode cX5_removeBytes 38 = .ok (.iinc 3 1, 3) := by decide +kernel
theorem dX5_removeBytes_41 : decode cX5_removeBytes 41 = .ok (.goto (-29), 3) := by decide +kernel
theorem dX5_removeBytes_44 : decode cX5_removeBytes 44 = .ok (.return_, 1) := by decide +kernel
theorem dX5_numberBetween_0 : decode cX5_numberBetween 0 = .ok (.iconst 0, 1) := by decide +kernel
theorem dX5_numberBetween_1 : decode cX5_numberBetween 1 = .ok (.istore_n 3, 1) := by decide +kernel
theorem dX5_numberBetween_2 : decode cX5_numberBetween 2 = .ok (.iload_n 1, 1) := by decide +kernel
theorem dX5_numberBetween_3 : decode cX5_numberBetween 3 = .ok (.istore 4, 2) := by decide +kernel
theorem dX5_numberBetween_5 : decode cX5_numberBetween 5 = .ok (.iload 4, 2) := by decide +kernel
theorem dX5_numberBetween_7 : decode cX5_numberBetween 7 = .ok (.iload_n 2, 1) := by decide +kernel
theorem dX5_numberBetween_8 : decode cX5_numberBetween 8 = .ok (.if_icmp .ge 27, 3) := by decide +kernel
theorem dX5_numberBetween_11 : decode cX5_numberBetween 11 = .ok (.iload_n 3, 1) := by decide +kernel
theorem dX5_numberBetween_12 : decode cX5_numberBetween 12 = .ok (.bipush 10, 2) := by decide +kernel
theorem dX5_numberBetween_14 : decode cX5_numberBetween 14 = .ok (.imul, 1) := by decide +kernel
theorem dX5_numberBetween_15 : decode cX5_numberBetween 15 = .ok (.aload_n 0, 1) := by decide +kernel
theorem dX5_numberBetween_16 : decode cX5_numberBetween 16 = .ok (.iload 4, 2) := by decide +kernel
theorem dX5_numberBetween_18 : decode cX5_numberBetween 18 = .ok (.invokevirtual 44, 3) := by decide +kernel
theorem dX5_numberBetween_21 : decode cX5_numberBetween 21 = .ok (.iadd, 1) := by decide +kernel
theorem dX5_numberBetween_22 : decode cX5_numberBetween 22 = .ok (.bipush 48, 2) := by decide +kernel
theorem dX5_numberBetween_24 : decode cX5_numberBetween 24 = .ok (.isub, 1) := by decide +kernel
theorem dX5_numberBetween_25 : decode cX5_numberBetween 25 = .ok (.ldc 47, 2) := by decide +kernel
theorem dX5_numberBetween_27 : decode cX5_numberBetween 27 = .ok (.irem, 1) := by decide +kernel
theorem dX5_numberBetween_28 : decode cX5_numberBetween 28 = .ok (.istore_n 3, 1) := by decide +kernel
theorem dX5_numberBetween_29 : decode cX5_numberBetween 29 = .ok (.iinc 4 1, 3) := by decide +kernel
theorem dX5_numberBetween_32 : decode cX5_numberBetween 32 = .ok (.goto (-27), 3) := by decide +kernel
theorem dX5_numberBetween_35 : decode cX5_numberBetween 35 = .ok (.iload_n 3, 1) := by decide +kernel
theorem dX5_numberBetween_36 : decode cX5_numberBetween 36 = .ok (.ireturn, 1) := by decide +kernel
theorem dX5_patternSize_0 : decode cX5_patternSize 0 = .ok (.aload_n 0, 1) := by decide +kernel
theorem dX5_patternSize_1 : decode cX5_patternSize 1 = .ok (.getfield 20, 3) := by decide +kernel
theorem dX5_patternSize_4 : decode cX5_patternSize 4 = .ok (.iload_n 1, 1) := by decide +kernel
theorem dX5_patternSize_5 : decode cX5_patternSize 5 = .ok (.invokevirtual 36, 3) := by decide +kernel
theorem dX5_patternSize_8 : decode cX5_patternSize 8 = .ok (.ireturn, 1) := by decide +kernel
theorem dX5_patternAt_0 : decode cX5_patternAt 0 = .ok (.aload_n 0, 1) := by decide +kernel
theorem dX5_patternAt_1 : decode cX5_patternAt 1 = .ok (.getfield 23, 3) := by decide +kernel
theorem dX5_patternAt_4 : decode cX5_patternAt 4 = .ok (.iload_n 1, 1) := by decide +kernel
theorem dX5_patternAt_5 : decode cX5_patternAt 5 = .ok (.bipush 8, 2) := by decide +kernel
theorem dX5_patternAt_7 : decode cX5_patternAt 7 = .ok (.imul, 1) := by decide +kernel
theorem dX5_patternAt_8 : decode cX5_patternAt 8 = .ok (.iload_n 2, 1) := by decide +kernel
theorem dX5_patternAt_9 : decode cX5_patternAt 9 = .ok (.iadd, 1) := by decide +kernel
theorem dX5_patternAt_10 : decode cX5_patternAt 10 = .ok (.invokevirtual 36, 3) := by decide +kernel
theorem dX5_patternAt_13 : decode cX5_patternAt 13 = .ok (.ireturn, 1) := by decide +kernel
theorem dX5_setPattern_0 : decode cX5_setPattern 0 = .ok (.aload_n 0, 1) := by decide +kernel
theorem dX5_setPattern_1 : decode cX5_setPattern 1 = .ok (.getfield 20, 3) := by decide +kernel
theorem dX5_setPattern_4 : decode cX5_setPattern 4 = .ok (.iload_n 1, 1) := by decide +kernel
theorem dX5_setPattern_5 : decode cX5_setPattern 5 = .ok (.iload_n 3, 1) := by decide +kernel
theorem dX5_setPattern_6 : decode cX5_setPattern 6 = .ok (.invokevirtual 40, 3) := by decide +kernel
theorem dX5_setPattern_9 : decode cX5_setPattern 9 = .ok (.iconst 0, 1) := by decide +kernel
theorem dX5_setPattern_10 : decode cX5_setPattern 10 = .ok (.istore 4, 2) := by decide +kernel
theorem dX5_setPattern_12 : decode cX5_setPattern 12 = .ok (.iload 4, 2) := by decide +kernel
theorem dX5_setPattern_14 : decode cX5_setPattern 14 = .ok (.iload_n 3, 1) := by decide +kernel
theorem dX5_setPattern_15 : decode cX5_setPattern 15 = .ok (.if_icmp .ge 29, 3) := by decide +kernel
theorem dX5_setPattern_18 : decode cX5_setPattern 18 = .ok (.aload_n 0, 1) := by decide +kernel
theorem dX5_setPattern_19 : decode cX5_setPattern 19 = .ok (.getfield 23, 3) := by decide +kernel
theorem dX5_setPattern_22 : decode cX5_setPattern 22 = .ok (.iload_n 1, 1) := by decide +kernel
theorem dX5_setPattern_23 : decode cX5_setPattern 23 = .ok (.bipush 8, 2) := by decide +kernel
theorem dX5_setPattern_25 : decode cX5_setPattern 25 = .ok (.imul, 1) := by decide +kernel
theorem dX5_setPattern_26 : decode cX5_setPattern 26 = .ok (.iload 4, 2) := by decide +kernel
theorem dX5_setPattern_28 : decode cX5_setPattern 28 = .ok (.iadd, 1) := by decide +kernel
theorem dX5_setPattern_29 : decode cX5_setPattern 29 = .ok (.aload_n 2, 1) := by decide +kernel
theorem dX5_setPattern_30 : decode cX5_setPattern 30 = .ok (.iload 4, 2) := by decide +kernel
theorem dX5_setPattern_32 : decode cX5_setPattern 32 = .ok (.invokevirtual 36, 3) := by decide +kernel
theorem dX5_setPattern_35 : decode cX5_setPattern 35 = .ok (.invokevirtual 40, 3) := by decide +kernel
theorem dX5_setPattern_38 : decode cX5_setPattern 38 = .ok (.iinc 4 1, 3) := by decide +kernel
theorem dX5_setPattern_41 : decode cX5_setPattern 41 = .ok (.goto (-29), 3) := by decide +kernel
theorem dX5_setPattern_44 : decode cX5_setPattern 44 = .ok (.return_, 1) := by decide +kernel
theorem dX5_stopOf_0 : decode cX5_stopOf 0 = .ok (.aload_n 0, 1) := by decide +kernel
theorem dX5_stopOf_1 : decode cX5_stopOf 1 = .ok (.getfield 26, 3) := by decide +kernel
theorem dX5_stopOf_4 : decode cX5_stopOf 4 = .ok (.iload_n 1, 1) := by decide +kernel
theorem dX5_stopOf_5 : decode cX5_stopOf 5 = .ok (.invokevirtual 36, 3) := by decide +kernel
theorem dX5_stopOf_8 : decode cX5_stopOf 8 = .ok (.ireturn, 1) := by decide +kernel
theorem dX5_putStop_0 : decode cX5_putStop 0 = .ok (.aload_n 0, 1) := by decide +kernel
theorem dX5_putStop_1 : decode cX5_putStop 1 = .ok (.getfield 26, 3) := by decide +kernel
theorem dX5_putStop_4 : decode cX5_putStop 4 = .ok (.iload_n 1, 1) := by decide +kernel
theorem dX5_putStop_5 : decode cX5_putStop 5 = .ok (.iload_n 2, 1) := by decide +kernel
theorem dX5_putStop_6 : decode cX5_putStop 6 = .ok (.invokevirtual 40, 3) := by decide +kernel
theorem dX5_putStop_9 : decode cX5_putStop 9 = .ok (.return_, 1) := by decide +kernel
theorem dX5_copyFrom_0 : decode cX5_copyFrom 0 = .ok (.aload_n 0, 1) := by decide +kernel
theorem dX5_copyFrom_1 : decode cX5_copyFrom 1 = .ok (.aload_n 1, 1) := by decide +kernel
theorem dX5_copyFrom_2 : decode cX5_copyFrom 2 = .ok (.getfield 29, 3) := by decide +kernel
theorem dX5_copyFrom_5 : decode cX5_copyFrom 5 = .ok (.putfield 29, 3) := by decide +kernel
theorem dX5_copyFrom_8 : decode cX5_copyFrom 8 = .ok (.aload_n 0, 1) := by decide +kernel
theorem dX5_copyFrom_9 : decode cX5_copyFrom 9 = .ok (.getfield 14, 3) := by decide +kernel
theorem dX5_copyFrom_12 : decode cX5_copyFrom 12 = .ok (.aload_n 1, 1) := by decide +kernel
theorem dX5_copyFrom_13 : decode cX5_copyFrom 13 = .ok (.getfield 14, 3) := by decide +kernel
theorem dX5_copyFrom_16 : decode cX5_copyFrom 16 = .ok (.invokevirtual 48, 3) := by decide +kernel
theorem dX5_copyFrom_19 : decode cX5_copyFrom 19 = .ok (.aload_n 0, 1) := by decide +kernel
theorem dX5_copyFrom_20 : decode cX5_copyFrom 20 = .ok (.getfield 20, 3) := by decide +kernel
theorem dX5_copyFrom_23 : decode cX5_copyFrom 23 = .ok (.aload_n 1, 1) := by decide +kernel
theorem dX5_copyFrom_24 : decode cX5_copyFrom 24 = .ok (.getfield 20, 3) := by decide +kernel
theorem dX5_copyFrom_27 : decode cX5_copyFrom 27 = .ok (.invokevirtual 48, 3) := by decide +kernel
theorem dX5_copyFrom_30 : decode cX5_copyFrom 30 = .ok (.aload_n 0, 1) := by decide +kernel
theorem dX5_copyFrom_31 : decode cX5_copyFrom 31 = .ok (.getfield 23, 3) := by decide +kernel
theorem dX5_copyFrom_34 : decode cX5_copyFrom 34 = .ok (.aload_n 1, 1) := by decide +kernel
theorem dX5_copyFrom_35 : decode cX5_copyFrom 35 = .ok (.getfield 23, 3) := by decide +kernel
theorem dX5_copyFrom_38 : decode cX5_copyFrom 38 = .ok (.invokevirtual 48, 3) := by decide +kernel
theorem dX5_copyFrom_41 : decode cX5_copyFrom 41 = .ok (.aload_n 0, 1) := by decide +kernel
theorem dX5_copyFrom_42 : decode cX5_copyFrom 42 = .ok (.getfield 26, 3) := by decide +kernel
theorem dX5_copyFrom_45 : decode cX5_copyFrom 45 = .ok (.aload_n 1, 1) := by decide +kernel
theorem dX5_copyFrom_46 : decode cX5_copyFrom 46 = .ok (.getfield 26, 3) := by decide +kernel
theorem dX5_copyFrom_49 : decode cX5_copyFrom 49 = .ok (.invokevirtual 48, 3) := by decide +kernel
theorem dX5_copyFrom_52 : decode cX5_copyFrom 52 = .ok (.return_, 1) := by decide +kernel
theorem dX5_mixInto_0 : decode cX5_mixInto 0 = .ok (.aload_n 0, 1) := by decide +kernel
theorem dX5_mixInto_1 : decode cX5_mixInto 1 = .ok (.getfield 14, 3) := by decide +kernel
theorem dX5_mixInto_4 : decode cX5_mixInto 4 = .ok (.lload_n 1, 1) := by decide +kernel
theorem dX5_mixInto_5 : decode cX5_mixInto 5 = .ok (.aload_n 0, 1) := by decide +kernel
theorem dX5_mixInto_6 : decode cX5_mixInto 6 = .ok (.getfield 29, 3) := by decide +kernel
theorem dX5_mixInto_9 : decode cX5_mixInto 9 = .ok (.i2l, 1) := by decide +kernel
theorem dX5_mixInto_10 : decode cX5_mixInto 10 = .ok (.invokestatic 52, 3) := by decide +kernel
theorem dX5_mixInto_13 : decode cX5_mixInto 13 = .ok (.iconst 0, 1) := by decide +kernel
theorem dX5_mixInto_14 : decode cX5_mixInto 14 = .ok (.aload_n 0, 1) := by decide +kernel
theorem dX5_mixInto_15 : decode cX5_mixInto 15 = .ok (.getfield 29, 3) := by decide +kernel
theorem dX5_mixInto_18 : decode cX5_mixInto 18 = .ok (.invokevirtual 56, 3) := by decide +kernel
theorem dX5_mixInto_21 : decode cX5_mixInto 21 = .ok (.lstore_n 3, 1) := by decide +kernel
theorem dX5_mixInto_22 : decode cX5_mixInto 22 = .ok (.iconst 0, 1) := by decide +kernel
theorem dX5_mixInto_23 : decode cX5_mixInto 23 = .ok (.istore 5, 2) := by decide +kernel
theorem dX5_mixInto_25 : decode cX5_mixInto 25 = .ok (.iload 5, 2) := by decide +kernel
theorem dX5_mixInto_27 : decode cX5_mixInto 27 = .ok (.bipush 6, 2) := by decide +kernel
theorem dX5_mixInto_29 : decode cX5_mixInto 29 = .ok (.if_icmp .ge 51, 3) := by decide +kernel
theorem dX5_mixInto_32 : decode cX5_mixInto 32 = .ok (.aload_n 0, 1) := by decide +kernel
theorem dX5_mixInto_33 : decode cX5_mixInto 33 = .ok (.iload 5, 2) := by decide +kernel
theorem dX5_mixInto_35 : decode cX5_mixInto 35 = .ok (.invokevirtual 60, 3) := by decide +kernel
theorem dX5_mixInto_38 : decode cX5_mixInto 38 = .ok (.istore 6, 2) := by decide +kernel
theorem dX5_mixInto_40 : decode cX5_mixInto 40 = .ok (.aload_n 0, 1) := by decide +kernel
theorem dX5_mixInto_41 : decode cX5_mixInto 41 = .ok (.getfield 23, 3) := by decide +kernel
theorem dX5_mixInto_44 : decode cX5_mixInto 44 = .ok (.lload_n 3, 1) := by decide +kernel
theorem dX5_mixInto_45 : decode cX5_mixInto 45 = .ok (.iload 6, 2) := by decide +kernel
theorem dX5_mixInto_47 : decode cX5_mixInto 47 = .ok (.i2l, 1) := by decide +kernel
theorem dX5_mixInto_48 : decode cX5_mixInto 48 = .ok (.invokestatic 52, 3) := by decide +kernel
theorem dX5_mixInto_51 : decode cX5_mixInto 51 = .ok (.iload 5, 2) := by decide +kernel
theorem dX5_mixInto_53 : decode cX5_mixInto 53 = .ok (.bipush 8, 2) := by decide +kernel
theorem dX5_mixInto_55 : decode cX5_mixInto 55 = .ok (.imul, 1) := by decide +kernel
theorem dX5_mixInto_56 : decode cX5_mixInto 56 = .ok (.iload 6, 2) := by decide +kernel
theorem dX5_mixInto_58 : decode cX5_mixInto 58 = .ok (.invokevirtual 56, 3) := by decide +kernel
theorem dX5_mixInto_61 : decode cX5_mixInto 61 = .ok (.lstore_n 3, 1) := by decide +kernel
theorem dX5_mixInto_62 : decode cX5_mixInto 62 = .ok (.lload_n 3, 1) := by decide +kernel
theorem dX5_mixInto_63 : decode cX5_mixInto 63 = .ok (.aload_n 0, 1) := by decide +kernel
theorem dX5_mixInto_64 : decode cX5_mixInto 64 = .ok (.iload 5, 2) := by decide +kernel
theorem dX5_mixInto_66 : decode cX5_mixInto 66 = .ok (.invokevirtual 63, 3) := by decide +kernel
theorem dX5_mixInto_69 : decode cX5_mixInto 69 = .ok (.i2l, 1) := by decide +kernel
theorem dX5_mixInto_70 : decode cX5_mixInto 70 = .ok (.invokestatic 52, 3) := by decide +kernel
theorem dX5_mixInto_73 : decode cX5_mixInto 73 = .ok (.lstore_n 3, 1) := by decide +kernel
theorem dX5_mixInto_74 : decode cX5_mixInto 74 = .ok (.iinc 5 1, 3) := by decide +kernel
theorem dX5_mixInto_77 : decode cX5_mixInto 77 = .ok (.goto (-52), 3) := by decide +kernel
theorem dX5_mixInto_80 : decode cX5_mixInto 80 = .ok (.lload_n 3, 1) := by decide +kernel
theorem dX5_mixInto_81 : decode cX5_mixInto 81 = .ok (.lreturn, 1) := by decide +kernel
theorem dX6_init_0 : decode cX6_init 0 = .ok (.aload_n 0, 1) := by decide +kernel
theorem dX6_init_1 : decode cX6_init 1 = .ok (.invokespecial 3, 3) := by decide +kernel
theorem dX6_init_4 : decode cX6_init 4 = .ok (.aload_n 0, 1) := by decide +kernel
theorem dX6_init_5 : decode cX6_init 5 = .ok (.new 9, 3) := by decide +kernel
theorem dX6_init_8 : decode cX6_init 8 = .ok (.dup, 1) := by decide +kernel
theorem dX6_init_9 : decode cX6_init 9 = .ok (.invokespecial 11, 3) := by decide +kernel
theorem dX6_init_12 : decode cX6_init 12 = .ok (.putfield 12, 3) := by decide +kernel
theorem dX6_init_15 : decode cX6_init 15 = .ok (.aload_n 0, 1) := by decide +kernel
theorem dX6_init_16 : decode cX6_init 16 = .ok (.new 16, 3) := by decide +kernel
theorem dX6_init_19 : decode cX6_init 19 = .ok (.dup, 1) := by decide +kernel
theorem dX6_init_20 : decode cX6_init 20 = .ok (.invokespecial 18, 3) := by decide +kernel
theorem dX6_init_23 : decode cX6_init 23 = .ok (.putfield 19, 3) := by decide +kernel
theorem dX6_init_26 : decode cX6_init 26 = .ok (.aload_n 0, 1) := by decide +kernel
theorem dX6_init_27 : decode cX6_init 27 = .ok (.new 23, 3) := by decide +kernel
theorem dX6_init_30 : decode cX6_init 30 = .ok (.dup, 1) := by decide +kernel
theorem dX6_init_31 : decode cX6_init 31 = .ok (.bipush 8, 2) := by decide +kernel
theorem dX6_init_33 : decode cX6_init 33 = .ok (.invokespecial 25, 3) := by decide +kernel
theorem dX6_init_36 : decode cX6_init 36 = .ok (.putfield 28, 3) := by decide +kernel
theorem dX6_init_39 : decode cX6_init 39 = .ok (.aload_n 0, 1) := by decide +kernel
theorem dX6_init_40 : decode cX6_init 40 = .ok (.new 23, 3) := by decide +kernel
theorem dX6_init_43 : decode cX6_init 43 = .ok (.dup, 1) := by decide +kernel
theorem dX6_init_44 : decode cX6_init 44 = .ok (.iconst 3, 1) := by decide +kernel
theorem dX6_init_45 : decode cX6_init 45 = .ok (.invokespecial 25, 3) := by decide +kernel
theorem dX6_init_48 : decode cX6_init 48 = .ok (.putfield 32, 3) := by decide +kernel
theorem dX6_init_51 : decode cX6_init 51 = .ok (.aload_n 0, 1) := by decide +kernel
theorem dX6_init_52 : decode cX6_init 52 = .ok (.new 35, 3) := by decide +kernel
theorem dX6_init_55 : decode cX6_init 55 = .ok (.dup, 1) := by decide +kernel
theorem dX6_init_56 : decode cX6_init 56 = .ok (.aload_n 0, 1) := by decide +kernel
theorem dX6_init_57 : decode cX6_init 57 = .ok (.getfield 12, 3) := by decide +kernel
theorem dX6_init_60 : decode cX6_init 60 = .ok (.invokespecial 37, 3) := by decide +kernel
theorem dX6_init_63 : decode cX6_init 63 = .ok (.putfield 40, 3) := by decide +kernel
theorem dX6_init_66 : decode cX6_init 66 = .ok (.aload_n 0, 1) := by decide +kernel
theorem dX6_init_67 : decode cX6_init 67 = .ok (.new 44, 3) := by decide +kernel
theorem dX6_init_70 : decode cX6_init 70 = .ok (.dup, 1) := by decide +kernel
theorem dX6_init_71 : decode cX6_init 71 = .ok (.aload_n 0, 1) := by decide +kernel
theorem dX6_init_72 : decode cX6_init 72 = .ok (.getfield 12, 3) := by decide +kernel
theorem dX6_init_75 : decode cX6_init 75 = .ok (.aload_n 0, 1) := by decide +kernel
theorem dX6_init_76 : decode cX6_init 76 = .ok (.getfield 40, 3) := by decide +kernel
theorem dX6_init_79 : decode cX6_init 79 = .ok (.invokespecial 46, 3) := by decide +kernel
theorem dX6_init_82 : decode cX6_init 82 = .ok (.putfield 49, 3) := by decide +kernel
theorem dX6_init_85 : decode cX6_init 85 = .ok (.aload_n 0, 1) := by decide +kernel
theorem dX6_init_86 : decode cX6_init 86 = .ok (.iconst 0, 1) := by decide +kernel
theorem dX6_init_87 : decode cX6_init 87 = .ok (.putfield 53, 3) := by decide +kernel
theorem dX6_init_90 : decode cX6_init 90 = .ok (.aload_n 0, 1) := by decide +kernel
theorem dX6_init_91 : decode cX6_init 91 = .ok (.iconst 1, 1) := by decide +kernel
theorem dX6_init_92 : decode cX6_init 92 = .ok (.putfield 57, 3) := by decide +kernel
theorem dX6_init_95 : decode cX6_init 95 = .ok (.return_, 1) := by decide +kernel
theorem dX6_insert_0 : decode cX6_insert 0 = .ok (.iload_n 1, 1) := by decide +kernel
theorem dX6_insert_1 : decode cX6_insert 1 = .ok (.ifCond .lt 21, 3) := by decide +kernel
theorem dX6_insert_4 : decode cX6_insert 4 = .ok (.iload_n 1, 1) := by decide +kernel
theorem dX6_insert_5 : decode cX6_insert 5 = .ok (.aload_n 0, 1) := by decide +kernel
theorem dX6_insert_6 : decode cX6_insert 6 = .ok (.getfield 12, 3) := by decide +kernel
theorem dX6_insert_9 : decode cX6_insert 9 = .ok (.invokevirtual 61, 3) := by decide +kernel
theorem dX6_insert_12 : decode cX6_insert 12 = .ok (.if_icmp .gt 10, 3) := by decide +kernel
theorem dX6_insert_15 : decode cX6_insert 15 = .ok (.iload_n 2, 1) := by decide +kernel
theorem dX6_insert_16 : decode cX6_insert 16 = .ok (.invokestatic 65, 3) := by decide +kernel
theorem dX6_insert_19 : decode cX6_insert 19 = .ok (.ifCond .ne 10, 3) := by decide +kernel
theorem dX6_insert_22 : decode cX6_insert 22 = .ok (.aload_n 0, 1) := by decide +kernel
theorem dX6_insert_23 : decode cX6_insert 23 = .ok (.bipush (-2), 2) := by decide +kernel
theorem dX6_insert_25 : decode cX6_insert 25 = .ok (.invokevirtual 69, 3) := by decide +kernel
theorem dX6_insert_28 : decode cX6_insert 28 = .ok (.ireturn, 1) := by decide +kernel
theorem dX6_insert_29 : decode cX6_insert 29 = .ok (.aload_n 0, 1) := by decide +kernel
theorem dX6_insert_30 : decode cX6_insert 30 = .ok (.getfield 12, 3) := by decide +kernel
theorem dX6_insert_33 : decode cX6_insert 33 = .ok (.invokevirtual 61, 3) := by decide +kernel
theorem dX6_insert_36 : decode cX6_insert 36 = .ok (.bipush 100, 2) := by decide +kernel
theorem dX6_insert_38 : decode cX6_insert 38 = .ok (.if_icmp .lt 10, 3) := by decide +kernel
theorem dX6_insert_41 : decode cX6_insert 41 = .ok (.aload_n 0, 1) := by decide +kernel
theorem dX6_insert_42 : decode cX6_insert 42 = .ok (.bipush (-4), 2) := by decide +kernel
theorem dX6_insert_44 : decode cX6_insert 44 = .ok (.invokevirtual 69, 3) := by decide +kernel
theorem dX6_insert_47 : decode cX6_insert 47 = .ok (.ireturn, 1) := by decide +kernel
theorem dX6_insert_48 : decode cX6_insert 48 = .ok (.aload_n 0, 1) := by decide +kernel
theorem dX6_insert_49 : decode cX6_insert 49 = .ok (.invokevirtual 73, 3) := by decide +kernel
theorem dX6_insert_52 : decode cX6_insert 52 = .ok (.aload_n 0, 1) := by decide +kernel
theorem dX6_insert_53 : decode cX6_insert 53 = .ok (.getfield 12, 3) := by decide +kernel
theorem dX6_insert_56 : decode cX6_insert 56 = .ok (.iload_n 1, 1) := by decide +kernel
theorem dX6_insert_57 : decode cX6_insert 57 = .ok (.iload_n 2, 1) := by decide +kernel
theorem dX6_insert_58 : decode cX6_insert 58 = .ok (.invokevirtual 76, 3) := by decide +kernel
theorem dX6_insert_61 : decode cX6_insert 61 = .ok (.aload_n 0, 1) := by decide +kernel
theorem dX6_insert_62 : decode cX6_insert 62 = .ok (.getfield 12, 3) := by decide +kernel
theorem dX6_insert_65 : decode cX6_insert 65 = .ok (.invokevirtual 61, 3) := by decide +kernel
theorem dX6_insert_68 : decode cX6_insert 68 = .ok (.ireturn, 1) := by decide +kernel
theorem dX6_replace_0 : decode cX6_replace 0 = .ok (.aload_n 0, 1) := by decide +kernel
theorem dX6_replace_1 : decode cX6_replace 1 = .ok (.iload_n 1, 1) := by decide +kernel
theorem dX6_replace_2 : decode cX6_replace 2 = .ok (.invokevirtual 80, 3) := by decide +kernel
theorem dX6_replace_5 : decode cX6_replace 5 = .ok (.ifCond .eq 10, 3) := by decide +kernel
theorem dX6_replace_8 : decode cX6_replace 8 = .ok (.iload_n 2, 1) := by decide +kernel
theorem dX6_replace_9 : decode cX6_replace 9 = .ok (.invokestatic 65, 3) := by decide +kernel
theorem dX6_replace_12 : decode cX6_replace 12 = .ok (.ifCond .ne 10, 3) := by decide +kernel
theorem dX6_replace_15 : decode cX6_replace 15 = .ok (.aload_n 0, 1) := by decide +kernel
theorem dX6_replace_16 : decode cX6_replace 16 = .ok (.bipush (-2), 2) := by decide +kernel
theorem dX6_replace_18 : decode cX6_replace 18 = .ok (.invokevirtual 69, 3) := by decide +kernel
theorem dX6_replace_21 : decode cX6_replace 21 = .ok (.ireturn, 1) := by decide +kernel
theorem dX6_replace_22 : decode cX6_replace 22 = .ok (.aload_n 0, 1) := by decide +kernel
theorem dX6_replace_23 : decode cX6_replace 23 = .ok (.getfield 12, 3) := by decide +kernel
theorem dX6_replace_26 : decode cX6_replace 26 = .ok (.iload_n 1, 1) := by decide +kernel
theorem dX6_replace_27 : decode cX6_replace 27 = .ok (.invokevirtual 83, 3) := by decide +kernel
theorem dX6_replace_30 : decode cX6_replace 30 = .ok (.istore_n 3, 1) := by decide +kernel
theorem dX6_replace_31 : decode cX6_replace 31 = .ok (.aload_n 0, 1) := by decide +kernel
theorem dX6_replace_32 : decode cX6_replace 32 = .ok (.invokevirtual 73, 3) := by decide +kernel
theorem dX6_replace_35 : decode cX6_replace 35 = .ok (.aload_n 0, 1) := by decide +kernel
theorem dX6_replace_36 : decode cX6_replace 36 = .ok (.getfield 12, 3) := by decide +kernel
theorem dX6_replace_39 : decode cX6_replace 39 = .ok (.iload_n 1, 1) := by decide +kernel
theorem dX6_replace_40 : decode cX6_replace 40 = .ok (.iload_n 2, 1) := by decide +kernel
theorem dX6_replace_41 : decode cX6_replace 41 = .ok (.invokevirtual 86, 3) := by decide +kernel
theorem dX6_replace_44 : decode cX6_replace 44 = .ok (.iload_n 3, 1) := by decide +kernel
theorem dX6_replace_45 : decode cX6_replace 45 = .ok (.ireturn, 1) := by decide +kernel
theorem dX6_delete_0 : decode cX6_delete 0 = .ok (.aload_n 0, 1) := by decide +kernel
theorem dX6_delete_1 : decode cX6_delete 1 = .ok (.iload_n 1, 1) := by decide +kernel
theorem dX6_delete_2 : decode cX6_delete 2 = .ok (.invokevirtual 80, 3) := by decide +kernel
theorem dX6_delete_5 : decode cX6_delete 5 = .ok (.ifCond .eq 21, 3) := by decide +kernel
theorem dX6_delete_8 : decode cX6_delete 8 = .ok (.iload_n 2, 1) := by decide +kernel
theorem dX6_delete_9 : decode cX6_delete 9 = .ok (.iconst 1, 1) := by decide +kernel
theorem dX6_delete_10 : decode cX6_delete 10 = .ok (.if_icmp .lt 16, 3) := by decide +kernel
theorem dX6_delete_13 : decode cX6_delete 13 = .ok (.iload_n 2, 1) := by decide +kernel
theorem dX6_delete_14 : decode cX6_delete 14 = .ok (.aload_n 0, 1) := by decide +kernel
theorem dX6_delete_15 : decode cX6_delete 15 = .ok (.getfield 12, 3) := by decide +kernel
theorem dX6_delete_18 : decode cX6_delete 18 = .ok (.invokevirtual 61, 3) := by decide +kernel
theorem dX6_delete_21 : decode cX6_delete 21 = .ok (.iload_n 1, 1) := by decide +kernel
theorem dX6_delete_22 : decode cX6_delete 22 = .ok (.isub, 1) := by decide +kernel
theorem dX6_delete_23 : decode cX6_delete 23 = .ok (.if_icmp .le 10, 3) := by decide +kernel
theorem dX6_delete_26 : decode cX6_delete 26 = .ok (.aload_n 0, 1) := by decide +kernel
theorem dX6_delete_27 : decode cX6_delete 27 = .ok (.bipush (-2), 2) := by decide +kernel
theorem dX6_delete_29 : decode cX6_delete 29 = .ok (.invokevirtual 69, 3) := by decide +kernel
theorem dX6_delete_32 : decode cX6_delete 32 = .ok (.ireturn, 1) := by decide +kernel
theorem dX6_delete_33 : decode cX6_delete 33 = .ok (.aload_n 0, 1) := by decide +kernel
theorem dX6_delete_34 : decode cX6_delete 34 = .ok (.invokevirtual 73, 3) := by decide +kernel
theorem dX6_delete_37 : decode cX6_delete 37 = .ok (.aload_n 0, 1) := by decide +kernel
theorem dX6_delete_38 : decode cX6_delete 38 = .ok (.getfield 12, 3) := by decide +kernel
theorem dX6_delete_41 : decode cX6_delete 41 = .ok (.iload_n 1, 1) := by decide +kernel
theorem dX6_delete_42 : decode cX6_delete 42 = .ok (.iload_n 2, 1) := by decide +kernel
theorem dX6_delete_43 : decode cX6_delete 43 = .ok (.invokevirtual 89, 3) := by decide +kernel
theorem dX6_delete_46 : decode cX6_delete 46 = .ok (.aload_n 0, 1) := by decide +kernel
theorem dX6_delete_47 : decode cX6_delete 47 = .ok (.getfield 12, 3) := by decide +kernel
theorem dX6_delete_50 : decode cX6_delete 50 = .ok (.invokevirtual 61, 3) := by decide +kernel
theorem dX6_delete_53 : decode cX6_delete 53 = .ok (.ireturn, 1) := by decide +kernel
theorem dX6_length_0 : decode cX6_length 0 = .ok (.aload_n 0, 1) := by decide +kernel
theorem dX6_length_1 : decode cX6_length 1 = .ok (.getfield 12, 3) := by decide +kernel
theorem dX6_length_4 : decode cX6_length 4 = .ok (.invokevirtual 61, 3) := by decide +kernel
theorem dX6_length_7 : decode cX6_length 7 = .ok (.ireturn, 1) := by decide +kernel
theorem dX6_byteAt_0 : decode cX6_byteAt 0 = .ok (.aload_n 0, 1) := by decide +kernel
theorem dX6_byteAt_1 : decode cX6_byteAt 1 = .ok (.iload_n 1, 1) := by decide +kernel
theorem dX6_byteAt_2 : decode cX6_byteAt 2 = .ok (.invokevirtual 80, 3) := by decide +kernel
theorem dX6_byteAt_5 : decode cX6_byteAt 5 = .ok (.ifCond .eq 14, 3) := by decide +kernel
theorem dX6_byteAt_8 : decode cX6_byteAt 8 = .ok (.aload_n 0, 1) := by decide +kernel
theorem dX6_byteAt_9 : decode cX6_byteAt 9 = .ok (.getfield 12, 3) := by decide +kernel
theorem dX6_byteAt_12 : decode cX6_byteAt 12 = .ok (.iload_n 1, 1) := by decide +kernel
theorem dX6_byteAt_13 : decode cX6_byteAt 13 = .ok (.invokevirtual 83, 3) := by decide +kernel
theorem dX6_byteAt_16 : decode cX6_byteAt 16 = .ok (.goto 9, 3) := by decide +kernel
theorem dX6_byteAt_19 : decode cX6_byteAt 19 = .ok (.aload_n 0, 1) := by decide +kernel
theorem dX6_byteAt_20 : decode cX6_byteAt 20 = .ok (.bipush (-2), 2) := by decide +kernel
theorem dX6_byteAt_22 : decode cX6_byteAt 22 = .ok (.invokevirtual 69, 3) := by decide +kernel
theorem dX6_byteAt_25 : decode cX6_byteAt 25 = .ok (.ireturn, 1) := by decide +kernel
theorem dX6_append_0 : decode cX6_append 0 = .ok (.iload_n 1, 1) := by decide +kernel
theorem dX6_append_1 : decode cX6_append 1 = .ok (.invokestatic 65, 3) := by decide +kernel
theorem dX6_append_4 : decode cX6_append 4 = .ok (.ifCond .ne 10, 3) := by decide +kernel
theorem dX6_append_7 : decode cX6_append 7 = .ok (.aload_n 0, 1) := by decide +kernel
theorem dX6_append_8 : decode cX6_append 8 = .ok (.bipush (-2), 2) := by decide +kernel
theorem dX6_append_10 : decode cX6_append 10 = .ok (.invokevirtual 69, 3) := by decide +kernel
theorem dX6_append_13 : decode cX6_append 13 = .ok (.ireturn, 1) := by decide +kernel
theorem dX6_append_14 : decode cX6_append 14 = .ok (.aload_n 0, 1) := by decide +kernel
theorem dX6_append_15 : decode cX6_append 15 = .ok (.getfield 53, 3) := by decide +kernel
theorem dX6_append_18 : decode cX6_append 18 = .ok (.bipush 8, 2) := by decide +kernel
theorem dX6_append_20 : decode cX6_append 20 = .ok (.if_icmp .lt 10, 3) := by decide +kernel
theorem dX6_append_23 : decode cX6_append 23 = .ok (.aload_n 0, 1) := by decide +kernel
theorem dX6_append_24 : decode cX6_append 24 = .ok (.bipush (-4), 2) := by decide +kernel
theorem dX6_append_26 : decode cX6_append 26 = .ok (.invokevirtual 69, 3) := by decide +kernel
theorem dX6_append_29 : decode cX6_append 29 = .ok (.ireturn, 1) := by decide +kernel
theorem dX6_append_30 : decode cX6_append 30 = .ok (.aload_n 0, 1) := by decide +kernel
theorem dX6_append_31 : decode cX6_append 31 = .ok (.getfield 28, 3) := by decide +kernel
theorem dX6_append_34 : decode cX6_append 34 = .ok (.aload_n 0, 1) := by decide +kernel
theorem dX6_append_35 : decode cX6_append 35 = .ok (.getfield 53, 3) := by decide +kernel
theorem dX6_append_38 : decode cX6_append 38 = .ok (.iload_n 1, 1) := by decide +kernel
theorem dX6_append_39 : decode cX6_append 39 = .ok (.invokevirtual 92, 3) := by decide +kernel
theorem dX6_append_42 : decode cX6_append 42 = .ok (.aload_n 0, 1) := by decide +kernel
theorem dX6_append_43 : decode cX6_append 43 = .ok (.dup, 1) := by decide +kernel
theorem dX6_append_44 : decode cX6_append 44 = .ok (.getfield 53, 3) := by decide +kernel
theorem dX6_append_47 : decode cX6_append 47 = .ok (.iconst 1, 1) := by decide +kernel
theorem dX6_append_48 : decode cX6_append 48 = .ok (.iadd, 1) := by decide +kernel
theorem dX6_append_49 : decode cX6_append 49 = .ok (.putfield 53, 3) := by decide +kernel
theorem dX6_append_52 : decode cX6_append 52 = .ok (.aload_n 0, 1) := by decide +kernel
theorem dX6_append_53 : decode cX6_append 53 = .ok (.getfield 53, 3) := by decide +kernel
theorem dX6_append_56 : decode cX6_append 56 = .ok (.ireturn, 1) := by decide +kernel
theorem dX6_clearPattern_0 : decode cX6_clearPattern 0 = .ok (.aload_n 0, 1) := by decide +kernel
theorem dX6_clearPattern_1 : decode cX6_clearPattern 1 = .ok (.getfield 53, 3) := by decide +kernel
theorem dX6_clearPattern_4 : decode cX6_clearPattern 4 = .ok (.istore_n 1, 1) := by decide +kernel
theorem dX6_clearPattern_5 : decode cX6_clearPattern 5 = .ok (.aload_n 0, 1) := by decide +kernel
theorem dX6_clearPattern_6 : decode cX6_clearPattern 6 = .ok (.iconst 0, 1) := by decide +kernel
theorem dX6_clearPattern_7 : decode cX6_clearPattern 7 = .ok (.putfield 53, 3) := by decide +kernel
theorem dX6_clearPattern_10 : decode cX6_clearPattern 10 = .ok (.iload_n 1, 1) := by decide +kernel
theorem dX6_clearPattern_11 : decode cX6_clearPattern 11 = .ok (.ireturn, 1) := by decide +kernel
theorem dX6_define_0 : decode cX6_define 0 = .ok (.iload_n 1, 1) := by decide +kernel
theorem dX6_define_1 : decode cX6_define 1 = .ok (.invokestatic 95, 3) := by decide +kernel
theorem dX6_define_4 : decode cX6_define 4 = .ok (.ifCond .ne 10, 3) := by decide +kernel
theorem dX6_define_7 : decode cX6_define 7 = .ok (.aload_n 0, 1) := by decide +kernel
theorem dX6_define_8 : decode cX6_define 8 = .ok (.bipush (-2), 2) := by decide +kernel
theorem dX6_define_10 : decode cX6_define 10 = .ok (.invokevirtual 69, 3) := by decide +kernel
theorem dX6_define_13 : decode cX6_define 13 = .ok (.ireturn, 1) := by decide +kernel
theorem dX6_define_14 : decode cX6_define 14 = .ok (.aload_n 0, 1) := by decide +kernel
theorem dX6_define_15 : decode cX6_define 15 = .ok (.getfield 53, 3) := by decide +kernel
theorem dX6_define_18 : decode cX6_define 18 = .ok (.ifCond .eq 17, 3) := by decide +kernel
theorem dX6_define_21 : decode cX6_define 21 = .ok (.aload_n 0, 1) := by decide +kernel
theorem dX6_define_22 : decode cX6_define 22 = .ok (.getfield 28, 3) := by decide +kernel
theorem dX6_define_25 : decode cX6_define 25 = .ok (.iconst 0, 1) := by decide +kernel
theorem dX6_define_26 : decode cX6_define 26 = .ok (.invokevirtual 98, 3) := by decide +kernel
theorem dX6_define_29 : decode cX6_define 29 = .ok (.invokestatic 101, 3) := by decide +kernel
theorem dX6_define_32 : decode cX6_define 32 = .ok (.ifCond .ne 10, 3) := by decide +kernel
theorem dX6_define_35 : decode cX6_define 35 = .ok (.aload_n 0, 1) := by decide +kernel
theorem dX6_define_36 : decode cX6_define 36 = .ok (.bipush (-3), 2) := by decide +kernel
theorem dX6_define_38 : decode cX6_define 38 = .ok (.invokevirtual 69, 3) := by decide +kernel
theorem dX6_define_41 : decode cX6_define 41 = .ok (.ireturn, 1) := by decide +kernel
theorem dX6_define_42 : decode cX6_define 42 = .ok (.aload_n 0, 1) := by decide +kernel
theorem dX6_define_43 : decode cX6_define 43 = .ok (.invokevirtual 73, 3) := by decide +kernel
theorem dX6_define_46 : decode cX6_define 46 = .ok (.aload_n 0, 1) := by decide +kernel
theorem dX6_define_47 : decode cX6_define 47 = .ok (.getfield 12, 3) := by decide +kernel
theorem dX6_define_50 : decode cX6_define 50 = .ok (.iload_n 1, 1) := by decide +kernel
theorem dX6_define_51 : decode cX6_define 51 = .ok (.aload_n 0, 1) := by decide +kernel
theorem dX6_define_52 : decode cX6_define 52 = .ok (.getfield 28, 3) := by decide +kernel
theorem dX6_define_55 : decode cX6_define 55 = .ok (.aload_n 0, 1) := by decide +kernel
theorem dX6_define_56 : decode cX6_define 56 = .ok (.getfield 53, 3) := by decide +kernel
theorem dX6_define_59 : decode cX6_define 59 = .ok (.invokevirtual 104, 3) := by decide +kernel
theorem dX6_define_62 : decode cX6_define 62 = .ok (.aload_n 0, 1) := by decide +kernel
theorem dX6_define_63 : decode cX6_define 63 = .ok (.getfield 53, 3) := by decide +kernel
theorem dX6_define_66 : decode cX6_define 66 = .ok (.ireturn, 1) := by decide +kernel
theorem dX6_undefine_0 : decode cX6_undefine 0 = .ok (.iload_n 1, 1) := by decide +kernel
theorem dX6_undefine_1 : decode cX6_undefine 1 = .ok (.invokestatic 95, 3) := by decide +kernel
theorem dX6_undefine_4 : decode cX6_undefine 4 = .ok (.ifCond .ne 10, 3) := by decide +kernel
theorem dX6_undefine_7 : decode cX6_undefine 7 = .ok (.aload_n 0, 1) := by decide +kernel
theorem dX6_undefine_8 : decode cX6_undefine 8 = .ok (.bipush (-2), 2) := by decide +kernel
theorem dX6_undefine_10 : decode cX6_undefine 10 = .ok (.invokevirtual 69, 3) := by decide +kernel
theorem dX6_undefine_13 : decode cX6_undefine 13 = .ok (.ireturn, 1) := by decide +kernel
theorem dX6_undefine_14 : decode cX6_undefine 14 = .ok (.aload_n 0, 1) := by decide +kernel
theorem dX6_undefine_15 : decode cX6_undefine 15 = .ok (.getfield 12, 3) := by decide +kernel
theorem dX6_undefine_18 : decode cX6_undefine 18 = .ok (.iload_n 1, 1) := by decide +kernel
theorem dX6_undefine_19 : decode cX6_undefine 19 = .ok (.invokevirtual 108, 3) := by decide +kernel
theorem dX6_undefine_22 : decode cX6_undefine 22 = .ok (.istore_n 2, 1) := by decide +kernel
theorem dX6_undefine_23 : decode cX6_undefine 23 = .ok (.aload_n 0, 1) := by decide +kernel
theorem dX6_undefine_24 : decode cX6_undefine 24 = .ok (.invokevirtual 73, 3) := by decide +kernel
theorem dX6_undefine_27 : decode cX6_undefine 27 = .ok (.aload_n 0, 1) := by decide +kernel
theorem dX6_undefine_28 : decode cX6_undefine 28 = .ok (.getfield 12, 3) := by decide +kernel
theorem dX6_undefine_31 : decode cX6_undefine 31 = .ok (.iload_n 1, 1) := by decide +kernel
theorem dX6_undefine_32 : decode cX6_undefine 32 = .ok (.aload_n 0, 1) := by decide +kernel
theorem dX6_undefine_33 : decode cX6_undefine 33 = .ok (.getfield 28, 3) := by decide +kernel
theorem dX6_undefine_36 : decode cX6_undefine 36 = .ok (.iconst 0, 1) := by decide +kernel
theorem dX6_undefine_37 : decode cX6_undefine 37 = .ok (.invokevirtual 104, 3) := by decide +kernel
theorem dX6_undefine_40 : decode cX6_undefine 40 = .ok (.iload_n 2, 1) := by decide +kernel
theorem dX6_undefine_41 : decode cX6_undefine 41 = .ok (.ireturn, 1) := by decide +kernel
theorem dX6_setStop_0 : decode cX6_setStop 0 = .ok (.iload_n 1, 1) := by decide +kernel
theorem dX6_setStop_1 : decode cX6_setStop 1 = .ok (.invokestatic 95, 3) := by decide +kernel
theorem dX6_setStop_4 : decode cX6_setStop 4 = .ok (.ifCond .eq 15, 3) := by decide +kernel
theorem dX6_setStop_7 : decode cX6_setStop 7 = .ok (.iload_n 2, 1) := by decide +kernel
theorem dX6_setStop_8 : decode cX6_setStop 8 = .ok (.iconst (-1), 1) := by decide +kernel
theorem dX6_setStop_9 : decode cX6_setStop 9 = .ok (.if_icmp .eq 17, 3) := by decide +kernel
theorem dX6_setStop_12 : decode cX6_setStop 12 = .ok (.iload_n 2, 1) := by decide +kernel
theorem dX6_setStop_13 : decode cX6_setStop 13 = .ok (.invokestatic 65, 3) := by decide +kernel
theorem dX6_setStop_16 : decode cX6_setStop 16 = .ok (.ifCond .ne 10, 3) := by decide +kernel
theorem dX6_setStop_19 : decode cX6_setStop 19 = .ok (.aload_n 0, 1) := by decide +kernel
theorem dX6_setStop_20 : decode cX6_setStop 20 = .ok (.bipush (-2), 2) := by decide +kernel
theorem dX6_setStop_22 : decode cX6_setStop 22 = .ok (.invokevirtual 69, 3) := by decide +kernel
theorem dX6_setStop_25 : decode cX6_setStop 25 = .ok (.ireturn, 1) := by decide +kernel
theorem dX6_setStop_26 : decode cX6_setStop 26 = .ok (.aload_n 0, 1) := by decide +kernel
theorem dX6_setStop_27 : decode cX6_setStop 27 = .ok (.getfield 12, 3) := by decide +kernel
theorem dX6_setStop_30 : decode cX6_setStop 30 = .ok (.iload_n 1, 1) := by decide +kernel
theorem dX6_setStop_31 : decode cX6_setStop 31 = .ok (.invokevirtual 111, 3) := by decide +kernel
theorem dX6_setStop_34 : decode cX6_setStop 34 = .ok (.istore_n 3, 1) := by decide +kernel
theorem dX6_setStop_35 : decode cX6_setStop 35 = .ok (.aload_n 0, 1) := by decide +kernel
theorem dX6_setStop_36 : decode cX6_setStop 36 = .ok (.invokevirtual 73, 3) := by decide +kernel
theorem dX6_setStop_39 : decode cX6_setStop 39 = .ok (.aload_n 0, 1) := by decide +kernel
theorem dX6_setStop_40 : decode cX6_setStop 40 = .ok (.getfield 12, 3) := by decide +kernel
theorem dX6_setStop_43 : decode cX6_setStop 43 = .ok (.iload_n 1, 1) := by decide +kernel
theorem dX6_setStop_44 : decode cX6_setStop 44 = .ok (.iload_n 2, 1) := by decide +kernel
theorem dX6_setStop_45 : decode cX6_setStop 45 = .ok (.invokevirtual 114, 3) := by decide +kernel
theorem dX6_setStop_48 : decode cX6_setStop 48 = .ok (.iload_n 3, 1) := by decide +kernel
theorem dX6_setStop_49 : decode cX6_setStop 49 = .ok (.ireturn, 1) := by decide +kernel
theorem dX6_element_0 : decode cX6_element 0 = .ok (.iload_n 1, 1) := by decide +kernel
theorem dX6_element_1 : decode cX6_element 1 = .ok (.invokestatic 95, 3) := by decide +kernel
theorem dX6_element_4 : decode cX6_element 4 = .ok (.ifCond .eq 7, 3) := by decide +kernel
theorem dX6_element_7 : decode cX6_element 7 = .ok (.iload_n 2, 1) := by decide +kernel
theorem dX6_element_8 : decode cX6_element 8 = .ok (.ifCond .ge 10, 3) := by decide +kernel
theorem dX6_element_11 : decode cX6_element 11 = .ok (.aload_n 0, 1) := by decide +kernel
theorem dX6_element_12 : decode cX6_element 12 = .ok (.bipush (-2), 2) := by decide +kernel
theorem dX6_element_14 : decode cX6_element 14 = .ok (.invokevirtual 69, 3) := by decide +kernel
theorem dX6_element_17 : decode cX6_element 17 = .ok (.ireturn, 1) := by decide +kernel
theorem dX6_element_18 : decode cX6_element 18 = .ok (.iload_n 2, 1) := by decide +kernel
theorem dX6_element_19 : decode cX6_element 19 = .ok (.aload_n 0, 1) := by decide +kernel
theorem dX6_element_20 : decode cX6_element 20 = .ok (.getfield 12, 3) := by decide +kernel
theorem dX6_element_23 : decode cX6_element 23 = .ok (.iload_n 1, 1) := by decide +kernel
theorem dX6_element_24 : decode cX6_element 24 = .ok (.invokevirtual 108, 3) := by decide +kernel
theorem dX6_element_27 : decode cX6_element 27 = .ok (.if_icmp .ge 15, 3) := by decide +kernel
theorem dX6_element_30 : decode cX6_element 30 = .ok (.aload_n 0, 1) := by decide +kernel
theorem dX6_element_31 : decode cX6_element 31 = .ok (.getfield 12, 3) := by decide +kernel
theorem dX6_element_34 : decode cX6_element 34 = .ok (.iload_n 1, 1) := by decide +kernel
theorem dX6_element_35 : decode cX6_element 35 = .ok (.iload_n 2, 1) := by decide +kernel
theorem dX6_element_36 : decode cX6_element 36 = .ok (.invokevirtual 117, 3) := by decide +kernel
theorem dX6_element_39 : decode cX6_element 39 = .ok (.goto 4, 3) := by decide +kernel
theorem dX6_element_42 : decode cX6_element 42 = .ok (.iconst (-1), 1) := by decide +kernel
theorem dX6_element_43 : decode cX6_element 43 = .ok (.ireturn, 1) := by decide +kernel
theorem dX6_matchEnd_0 : decode cX6_matchEnd 0 = .ok (.iload_n 1, 1) := by decide +kernel
theorem dX6_matchEnd_1 : decode cX6_matchEnd 1 = .ok (.invokestatic 95, 3) := by decide +kernel
theorem dX6_matchEnd_4 : decode cX6_matchEnd 4 = .ok (.ifCond .eq 18, 3) := by decide +kernel
theorem dX6_matchEnd_7 : decode cX6_matchEnd 7 = .ok (.iload_n 2, 1) := by decide +kernel
theorem dX6_matchEnd_8 : decode cX6_matchEnd 8 = .ok (.ifCond .lt 14, 3) := by decide +kernel
theorem dX6_matchEnd_11 : decode cX6_matchEnd 11 = .ok (.iload_n 2, 1) := by decide +kernel
theorem dX6_matchEnd_12 : decode cX6_matchEnd 12 = .ok (.aload_n 0, 1) := by decide +kernel
theorem dX6_matchEnd_13 : decode cX6_matchEnd 13 = .ok (.getfield 12, 3) := by decide +kernel
theorem dX6_matchEnd_16 : decode cX6_matchEnd 16 = .ok (.invokevirtual 61, 3) := by decide +kernel
theorem dX6_matchEnd_19 : decode cX6_matchEnd 19 = .ok (.if_icmp .le 10, 3) := by decide +kernel
theorem dX6_matchEnd_22 : decode cX6_matchEnd 22 = .ok (.aload_n 0, 1) := by decide +kernel
theorem dX6_matchEnd_23 : decode cX6_matchEnd 23 = .ok (.bipush (-2), 2) := by decide +kernel
theorem dX6_matchEnd_25 : decode cX6_matchEnd 25 = .ok (.invokevirtual 69, 3) := by decide +kernel
theorem dX6_matchEnd_28 : decode cX6_matchEnd 28 = .ok (.ireturn, 1) := by decide +kernel
theorem dX6_matchEnd_29 : decode cX6_matchEnd 29 = .ok (.aload_n 0, 1) := by decide +kernel
theorem dX6_matchEnd_30 : decode cX6_matchEnd 30 = .ok (.invokevirtual 121, 3) := by decide +kernel
theorem dX6_matchEnd_33 : decode cX6_matchEnd 33 = .ok (.aload_n 0, 1) := by decide +kernel
theorem dX6_matchEnd_34 : decode cX6_matchEnd 34 = .ok (.getfield 40, 3) := by decide +kernel
theorem dX6_matchEnd_37 : decode cX6_matchEnd 37 = .ok (.iload_n 1, 1) := by decide +kernel
theorem dX6_matchEnd_38 : decode cX6_matchEnd 38 = .ok (.iload_n 2, 1) := by decide +kernel
theorem dX6_matchEnd_39 : decode cX6_matchEnd 39 = .ok (.invokevirtual 124, 3) := by decide +kernel
theorem dX6_matchEnd_42 : decode cX6_matchEnd 42 = .ok (.ireturn, 1) := by decide +kernel
theorem dX6_nodeCount_0 : decode cX6_nodeCount 0 = .ok (.aload_n 0, 1) := by decide +kernel
theorem dX6_nodeCount_1 : decode cX6_nodeCount 1 = .ok (.invokevirtual 121, 3) := by decide +kernel
theorem dX6_nodeCount_4 : decode cX6_nodeCount 4 = .ok (.aload_n 0, 1) := by decide +kernel
theorem dX6_nodeCount_5 : decode cX6_nodeCount 5 = .ok (.getfield 49, 3) := by decide +kernel
theorem dX6_nodeCount_8 : decode cX6_nodeCount 8 = .ok (.invokevirtual 127, 3) := by decide +kernel
theorem dX6_nodeCount_11 : decode cX6_nodeCount 11 = .ok (.ireturn, 1) := by decide +kernel
theorem dX6_islandCount_0 : decode cX6_islandCount 0 = .ok (.aload_n 0, 1) := by decide +kernel
theorem dX6_islandCount_1 : decode cX6_islandCount 1 = .ok (.invokevirtual 121, 3) := by decide +kernel
theorem dX6_islandCount_4 : decode cX6_islandCount 4 = .ok (.aload_n 0, 1) := by decide +kernel
theorem dX6_islandCount_5 : decode cX6_islandCount 5 = .ok (.getfield 49, 3) := by decide +kernel
theorem dX6_islandCount_8 : decode cX6_islandCount 8 = .ok (.invokevirtual 130, 3) := by decide +kernel
theorem dX6_islandCount_11 : decode cX6_islandCount 11 = .ok (.ireturn, 1) := by decide +kernel
theorem dX6_nodeRule_0 : decode cX6_nodeRule 0 = .ok (.aload_n 0, 1) := by decide +kernel
theorem dX6_nodeRule_1 : decode cX6_nodeRule 1 = .ok (.invokevirtual 121, 3) := by decide +kernel
theorem dX6_nodeRule_4 : decode cX6_nodeRule 4 = .ok (.aload_n 0, 1) := by decide +kernel
theorem dX6_nodeRule_5 : decode cX6_nodeRule 5 = .ok (.getfield 49, 3) := by decide +kernel
theorem dX6_nodeRule_8 : decode cX6_nodeRule 8 = .ok (.iload_n 1, 1) := by decide +kernel
theorem dX6_nodeRule_9 : decode cX6_nodeRule 9 = .ok (.invokevirtual 133, 3) := by decide +kernel
theorem dX6_nodeRule_12 : decode cX6_nodeRule 12 = .ok (.ifCond .eq 14, 3) := by decide +kernel
theorem dX6_nodeRule_15 : decode cX6_nodeRule 15 = .ok (.aload_n 0, 1) := by decide +kernel
theorem dX6_nodeRule_16 : decode cX6_nodeRule 16 = .ok (.getfield 49, 3) := by decide +kernel
theorem dX6_nodeRule_19 : decode cX6_nodeRule 19 = .ok (.iload_n 1, 1) := by decide +kernel
theorem dX6_nodeRule_20 : decode cX6_nodeRule 20 = .ok (.invokevirtual 136, 3) := by decide +kernel
theorem dX6_nodeRule_23 : decode cX6_nodeRule 23 = .ok (.goto 9, 3) := by decide +kernel
theorem dX6_nodeRule_26 : decode cX6_nodeRule 26 = .ok (.aload_n 0, 1) := by decide +kernel
theorem dX6_nodeRule_27 : decode cX6_nodeRule 27 = .ok (.bipush (-2), 2) := by decide +kernel
theorem dX6_nodeRule_29 : decode cX6_nodeRule 29 = .ok (.invokevirtual 69, 3) := by decide +kernel
theorem dX6_nodeRule_32 : decode cX6_nodeRule 32 = .ok (.ireturn, 1) := by decide +kernel
theorem dX6_nodeStart_0 : decode cX6_nodeStart 0 = .ok (.aload_n 0, 1) := by decide +kernel
theorem dX6_nodeStart_1 : decode cX6_nodeStart 1 = .ok (.invokevirtual 121, 3) := by decide +kernel
theorem dX6_nodeStart_4 : decode cX6_nodeStart 4 = .ok (.aload_n 0, 1) := by decide +kernel
theorem dX6_nodeStart_5 : decode cX6_nodeStart 5 = .ok (.getfield 49, 3) := by decide +kernel
theorem dX6_nodeStart_8 : decode cX6_nodeStart 8 = .ok (.iload_n 1, 1) := by decide +kernel
theorem dX6_nodeStart_9 : decode cX6_nodeStart 9 = .ok (.invokevirtual 133, 3) := by decide +kernel
theorem dX6_nodeStart_12 : decode cX6_nodeStart 12 = .ok (.ifCond .eq 14, 3) := by decide +kernel
theorem dX6_nodeStart_15 : decode cX6_nodeStart 15 = .ok (.aload_n 0, 1) := by decide +kernel
theorem dX6_nodeStart_16 : decode cX6_nodeStart 16 = .ok (.getfield 49, 3) := by decide +kernel
theorem dX6_nodeStart_19 : decode cX6_nodeStart 19 = .ok (.iload_n 1, 1) := by decide +kernel
theorem dX6_nodeStart_20 : decode cX6_nodeStart 20 = .ok (.invokevirtual 139, 3) := by decide +kernel
theorem dX6_nodeStart_23 : decode cX6_nodeStart 23 = .ok (.goto 9, 3) := by decide +kernel
theorem dX6_nodeStart_26 : decode cX6_nodeStart 26 = .ok (.aload_n 0, 1) := by decide +kernel
theorem dX6_nodeStart_27 : decode cX6_nodeStart 27 = .ok (.bipush (-2), 2) := by decide +kernel
theorem dX6_nodeStart_29 : decode cX6_nodeStart 29 = .ok (.invokevirtual 69, 3) := by decide +kernel
theorem dX6_nodeStart_32 : decode cX6_nodeStart 32 = .ok (.ireturn, 1) := by decide +kernel
theorem dX6_nodeEnd_0 : decode cX6_nodeEnd 0 = .ok (.aload_n 0, 1) := by decide +kernel
theorem dX6_nodeEnd_1 : decode cX6_nodeEnd 1 = .ok (.invokevirtual 121, 3) := by decide +kernel
theorem dX6_nodeEnd_4 : decode cX6_nodeEnd 4 = .ok (.aload_n 0, 1) := by decide +kernel
theorem dX6_nodeEnd_5 : decode cX6_nodeEnd 5 = .ok (.getfield 49, 3) := by decide +kernel
theorem dX6_nodeEnd_8 : decode cX6_nodeEnd 8 = .ok (.iload_n 1, 1) := by decide +kernel
theorem dX6_nodeEnd_9 : decode cX6_nodeEnd 9 = .ok (.invokevirtual 133, 3) := by decide +kernel
theorem dX6_nodeEnd_12 : decode cX6_nodeEnd 12 = .ok (.ifCond .eq 14, 3) := by decide +kernel
theorem dX6_nodeEnd_15 : decode cX6_nodeEnd 15 = .ok (.aload_n 0, 1) := by decide +kernel
theorem dX6_nodeEnd_16 : decode cX6_nodeEnd 16 = .ok (.getfield 49, 3) := by decide +kernel
theorem dX6_nodeEnd_19 : decode cX6_nodeEnd 19 = .ok (.iload_n 1, 1) := by decide +kernel
theorem dX6_nodeEnd_20 : decode cX6_nodeEnd 20 = .ok (.invokevirtual 142, 3) := by decide +kernel
theorem dX6_nodeEnd_23 : decode cX6_nodeEnd 23 = .ok (.goto 9, 3) := by decide +kernel
theorem dX6_nodeEnd_26 : decode cX6_nodeEnd 26 = .ok (.aload_n 0, 1) := by decide +kernel
theorem dX6_nodeEnd_27 : decode cX6_nodeEnd 27 = .ok (.bipush (-2), 2) := by decide +kernel
theorem dX6_nodeEnd_29 : decode cX6_nodeEnd 29 = .ok (.invokevirtual 69, 3) := by decide +kernel
theorem dX6_nodeEnd_32 : decode cX6_nodeEnd 32 = .ok (.ireturn, 1) := by decide +kernel
theorem dX6_nodeParent_0 : decode cX6_nodeParent 0 = .ok (.aload_n 0, 1) := by decide +kernel
theorem dX6_nodeParent_1 : decode cX6_nodeParent 1 = .ok (.invokevirtual 121, 3) := by decide +kernel
theorem dX6_nodeParent_4 : decode cX6_nodeParent 4 = .ok (.aload_n 0, 1) := by decide +kernel
theorem dX6_nodeParent_5 : decode cX6_nodeParent 5 = .ok (.getfield 49, 3) := by decide +kernel
theorem dX6_nodeParent_8 : decode cX6_nodeParent 8 = .ok (.iload_n 1, 1) := by decide +kernel
theorem dX6_nodeParent_9 : decode cX6_nodeParent 9 = .ok (.invokevirtual 133, 3) := by decide +kernel
theorem dX6_nodeParent_12 : decode cX6_nodeParent 12 = .ok (.ifCond .eq 14, 3) := by decide +kernel
theorem dX6_nodeParent_15 : decode cX6_nodeParent 15 = .ok (.aload_n 0, 1) := by decide +kernel
theorem dX6_nodeParent_16 : decode cX6_nodeParent 16 = .ok (.getfield 49, 3) := by decide +kernel
theorem dX6_nodeParent_19 : decode cX6_nodeParent 19 = .ok (.iload_n 1, 1) := by decide +kernel
theorem dX6_nodeParent_20 : decode cX6_nodeParent 20 = .ok (.invokevirtual 145, 3) := by decide +kernel
theorem dX6_nodeParent_23 : decode cX6_nodeParent 23 = .ok (.goto 9, 3) := by decide +kernel
theorem dX6_nodeParent_26 : decode cX6_nodeParent 26 = .ok (.aload_n 0, 1) := by decide +kernel
theorem dX6_nodeParent_27 : decode cX6_nodeParent 27 = .ok (.bipush (-2), 2) := by decide +kernel
theorem dX6_nodeParent_29 : decode cX6_nodeParent 29 = .ok (.invokevirtual 69, 3) := by decide +kernel
theorem dX6_nodeParent_32 : decode cX6_nodeParent 32 = .ok (.ireturn, 1) := by decide +kernel
theorem dX6_nodeDepth_0 : decode cX6_nodeDepth 0 = .ok (.aload_n 0, 1) := by decide +kernel
theorem dX6_nodeDepth_1 : decode cX6_nodeDepth 1 = .ok (.invokevirtual 121, 3) := by decide +kernel
theorem dX6_nodeDepth_4 : decode cX6_nodeDepth 4 = .ok (.aload_n 0, 1) := by decide +kernel
theorem dX6_nodeDepth_5 : decode cX6_nodeDepth 5 = .ok (.getfield 49, 3) := by decide +kernel
theorem dX6_nodeDepth_8 : decode cX6_nodeDepth 8 = .ok (.iload_n 1, 1) := by decide +kernel
theorem dX6_nodeDepth_9 : decode cX6_nodeDepth 9 = .ok (.invokevirtual 133, 3) := by decide +kernel
theorem dX6_nodeDepth_12 : decode cX6_nodeDepth 12 = .ok (.ifCond .eq 14, 3) := by decide +kernel
theorem dX6_nodeDepth_15 : decode cX6_nodeDepth 15 = .ok (.aload_n 0, 1) := by decide +kernel
theorem dX6_nodeDepth_16 : decode cX6_nodeDepth 16 = .ok (.getfield 49, 3) := by decide +kernel
theorem dX6_nodeDepth_19 : decode cX6_nodeDepth 19 = .ok (.iload_n 1, 1) := by decide +kernel
theorem dX6_nodeDepth_20 : decode cX6_nodeDepth 20 = .ok (.invokevirtual 148, 3) := by decide +kernel
theorem dX6_nodeDepth_23 : decode cX6_nodeDepth 23 = .ok (.goto 9, 3) := by decide +kernel
theorem dX6_nodeDepth_26 : decode cX6_nodeDepth 26 = .ok (.aload_n 0, 1) := by decide +kernel
theorem dX6_nodeDepth_27 : decode cX6_nodeDepth 27 = .ok (.bipush (-2), 2) := by decide +kernel
theorem dX6_nodeDepth_29 : decode cX6_nodeDepth 29 = .ok (.invokevirtual 69, 3) := by decide +kernel
theorem dX6_nodeDepth_32 : decode cX6_nodeDepth 32 = .ok (.ireturn, 1) := by decide +kernel
theorem dX6_nodeWater_0 : decode cX6_nodeWater 0 = .ok (.aload_n 0, 1) := by decide +kernel
theorem dX6_nodeWater_1 : decode cX6_nodeWater 1 = .ok (.invokevirtual 121, 3) := by decide +kernel
theorem dX6_nodeWater_4 : decode cX6_nodeWater 4 = .ok (.aload_n 0, 1) := by decide +kernel
theorem dX6_nodeWater_5 : decode cX6_nodeWater 5 = .ok (.getfield 49, 3) := by decide +kernel
theorem dX6_nodeWater_8 : decode cX6_nodeWater 8 = .ok (.iload_n 1, 1) := by decide +kernel
theorem dX6_nodeWater_9 : decode cX6_nodeWater 9 = .ok (.invokevirtual 133, 3) := by decide +kernel
theorem dX6_nodeWater_12 : decode cX6_nodeWater 12 = .ok (.ifCond .eq 14, 3) := by decide +kernel
theorem dX6_nodeWater_15 : decode cX6_nodeWater 15 = .ok (.aload_n 0, 1) := by decide +kernel
theorem dX6_nodeWater_16 : decode cX6_nodeWater 16 = .ok (.getfield 49, 3) := by decide +kernel
theorem dX6_nodeWater_19 : decode cX6_nodeWater 19 = .ok (.iload_n 1, 1) := by decide +kernel
theorem dX6_nodeWater_20 : decode cX6_nodeWater 20 = .ok (.invokevirtual 151, 3) := by decide +kernel
theorem dX6_nodeWater_23 : decode cX6_nodeWater 23 = .ok (.goto 9, 3) := by decide +kernel
theorem dX6_nodeWater_26 : decode cX6_nodeWater 26 = .ok (.aload_n 0, 1) := by decide +kernel
theorem dX6_nodeWater_27 : decode cX6_nodeWater 27 = .ok (.bipush (-2), 2) := by decide +kernel
theorem dX6_nodeWater_29 : decode cX6_nodeWater 29 = .ok (.invokevirtual 69, 3) := by decide +kernel
theorem dX6_nodeWater_32 : decode cX6_nodeWater 32 = .ok (.ireturn, 1) := by decide +kernel
theorem dX6_nodeNumber_0 : decode cX6_nodeNumber 0 = .ok (.aload_n 0, 1) := by decide +kernel
theorem dX6_nodeNumber_1 : decode cX6_nodeNumber 1 = .ok (.invokevirtual 121, 3) := by decide +kernel
theorem dX6_nodeNumber_4 : decode cX6_nodeNumber 4 = .ok (.aload_n 0, 1) := by decide +kernel
theorem dX6_nodeNumber_5 : decode cX6_nodeNumber 5 = .ok (.getfield 49, 3) := by decide +kernel
theorem dX6_nodeNumber_8 : decode cX6_nodeNumber 8 = .ok (.iload_n 1, 1) := by decide +kernel
theorem dX6_nodeNumber_9 : decode cX6_nodeNumber 9 = .ok (.invokevirtual 133, 3) := by decide +kernel
theorem dX6_nodeNumber_12 : decode cX6_nodeNumber 12 = .ok (.ifCond .eq 14, 3) := by decide +kernel
theorem dX6_nodeNumber_15 : decode cX6_nodeNumber 15 = .ok (.aload_n 0, 1) := by decide +kernel
theorem dX6_nodeNumber_16 : decode cX6_nodeNumber 16 = .ok (.getfield 49, 3) := by decide +kernel
theorem dX6_nodeNumber_19 : decode cX6_nodeNumber 19 = .ok (.iload_n 1, 1) := by decide +kernel
theorem dX6_nodeNumber_20 : decode cX6_nodeNumber 20 = .ok (.invokevirtual 154, 3) := by decide +kernel
theorem dX6_nodeNumber_23 : decode cX6_nodeNumber 23 = .ok (.goto 9, 3) := by decide +kernel
theorem dX6_nodeNumber_26 : decode cX6_nodeNumber 26 = .ok (.aload_n 0, 1) := by decide +kernel
theorem dX6_nodeNumber_27 : decode cX6_nodeNumber 27 = .ok (.bipush (-2), 2) := by decide +kernel
theorem dX6_nodeNumber_29 : decode cX6_nodeNumber 29 = .ok (.invokevirtual 69, 3) := by decide +kernel
theorem dX6_nodeNumber_32 : decode cX6_nodeNumber 32 = .ok (.ireturn, 1) := by decide +kernel
theorem dX6_nodeAt_0 : decode cX6_nodeAt 0 = .ok (.aload_n 0, 1) := by decide +kernel
theorem dX6_nodeAt_1 : decode cX6_nodeAt 1 = .ok (.iload_n 1, 1) := by decide +kernel
theorem dX6_nodeAt_2 : decode cX6_nodeAt 2 = .ok (.invokevirtual 80, 3) := by decide +kernel
theorem dX6_nodeAt_5 : decode cX6_nodeAt 5 = .ok (.ifCond .ne 10, 3) := by decide +kernel
theorem dX6_nodeAt_8 : decode cX6_nodeAt 8 = .ok (.aload_n 0, 1) := by decide +kernel
theorem dX6_nodeAt_9 : decode cX6_nodeAt 9 = .ok (.bipush (-2), 2) := by decide +kernel
theorem dX6_nodeAt_11 : decode cX6_nodeAt 11 = .ok (.invokevirtual 69, 3) := by decide +kernel
theorem dX6_nodeAt_14 : decode cX6_nodeAt 14 = .ok (.ireturn, 1) := by decide +kernel
theorem dX6_nodeAt_15 : decode cX6_nodeAt 15 = .ok (.aload_n 0, 1) := by decide +kernel
theorem dX6_nodeAt_16 : decode cX6_nodeAt 16 = .ok (.invokevirtual 121, 3) := by decide +kernel
theorem dX6_nodeAt_19 : decode cX6_nodeAt 19 = .ok (.aload_n 0, 1) := by decide +kernel
theorem dX6_nodeAt_20 : decode cX6_nodeAt 20 = .ok (.getfield 49, 3) := by decide +kernel
theorem dX6_nodeAt_23 : decode cX6_nodeAt 23 = .ok (.iload_n 1, 1) := by decide +kernel
theorem dX6_nodeAt_24 : decode cX6_nodeAt 24 = .ok (.invokevirtual 157, 3) := by decide +kernel
theorem dX6_nodeAt_27 : decode cX6_nodeAt 27 = .ok (.ireturn, 1) := by decide +kernel
theorem dX6_waterLength_0 : decode cX6_waterLength 0 = .ok (.aload_n 0, 1) := by decide +kernel
theorem dX6_waterLength_1 : decode cX6_waterLength 1 = .ok (.invokevirtual 121, 3) := by decide +kernel
theorem dX6_waterLength_4 : decode cX6_waterLength 4 = .ok (.aload_n 0, 1) := by decide +kernel
theorem dX6_waterLength_5 : decode cX6_waterLength 5 = .ok (.getfield 49, 3) := by decide +kernel
theorem dX6_waterLength_8 : decode cX6_waterLength 8 = .ok (.invokevirtual 160, 3) := by decide +kernel
theorem dX6_waterLength_11 : decode cX6_waterLength 11 = .ok (.ireturn, 1) := by decide +kernel
theorem dX6_longestWater_0 : decode cX6_longestWater 0 = .ok (.aload_n 0, 1) := by decide +kernel
theorem dX6_longestWater_1 : decode cX6_longestWater 1 = .ok (.invokevirtual 121, 3) := by decide +kernel
theorem dX6_longestWater_4 : decode cX6_longestWater 4 = .ok (.aload_n 0, 1) := by decide +kernel
theorem dX6_longestWater_5 : decode cX6_longestWater 5 = .ok (.getfield 49, 3) := by decide +kernel
theorem dX6_longestWater_8 : decode cX6_longestWater 8 = .ok (.invokevirtual 163, 3) := by decide +kernel
theorem dX6_longestWater_11 : decode cX6_longestWater 11 = .ok (.ireturn, 1) := by decide +kernel
theorem dX6_countOf_0 : decode cX6_countOf 0 = .ok (.iload_n 1, 1) := by decide +kernel
theorem dX6_countOf_1 : decode cX6_countOf 1 = .ok (.invokestatic 95, 3) := by decide +kernel
theorem dX6_countOf_4 : decode cX6_countOf 4 = .ok (.ifCond .ne 10, 3) := by decide +kernel
theorem dX6_countOf_7 : decode cX6_countOf 7 = .ok (.aload_n 0, 1) := by decide +kernel
theorem dX6_countOf_8 : decode cX6_countOf 8 = .ok (.bipush (-2), 2) := by decide +kernel
theorem dX6_countOf_10 : decode cX6_countOf 10 = .ok (.invokevirtual 69, 3) := by decide +kernel
theorem dX6_countOf_13 : decode cX6_countOf 13 = .ok (.ireturn, 1) := by decide +kernel
theorem dX6_countOf_14 : decode cX6_countOf 14 = .ok (.aload_n 0, 1) := by decide +kernel
theorem dX6_countOf_15 : decode cX6_countOf 15 = .ok (.invokevirtual 121, 3) := by decide +kernel
theorem dX6_countOf_18 : decode cX6_countOf 18 = .ok (.aload_n 0, 1) := by decide +kernel
theorem dX6_countOf_19 : decode cX6_countOf 19 = .ok (.getfield 49, 3) := by decide +kernel
theorem dX6_countOf_22 : decode cX6_countOf 22 = .ok (.iload_n 1, 1) := by decide +kernel
theorem dX6_countOf_23 : decode cX6_countOf 23 = .ok (.invokevirtual 166, 3) := by decide +kernel
theorem dX6_countOf_26 : decode cX6_countOf 26 = .ok (.ireturn, 1) := by decide +kernel
theorem dX6_undo_0 : decode cX6_undo 0 = .ok (.aload_n 0, 1) := by decide +kernel
theorem dX6_undo_1 : decode cX6_undo 1 = .ok (.getfield 19, 3) := by decide +kernel
theorem dX6_undo_4 : decode cX6_undo 4 = .ok (.invokevirtual 169, 3) := by decide +kernel
theorem dX6_undo_7 : decode cX6_undo 7 = .ok (.ifCond .ne 10, 3) := by decide +kernel
theorem dX6_undo_10 : decode cX6_undo 10 = .ok (.aload_n 0, 1) := by decide +kernel
theorem dX6_undo_11 : decode cX6_undo 11 = .ok (.bipush (-3), 2) := by decide +kernel
theorem dX6_undo_13 : decode cX6_undo 13 = .ok (.invokevirtual 69, 3) := by decide +kernel
theorem dX6_undo_16 : decode cX6_undo 16 = .ok (.ireturn, 1) := by decide +kernel
theorem dX6_undo_17 : decode cX6_undo 17 = .ok (.aload_n 0, 1) := by decide +kernel
theorem dX6_undo_18 : decode cX6_undo 18 = .ok (.getfield 19, 3) := by decide +kernel
theorem dX6_undo_21 : decode cX6_undo 21 = .ok (.aload_n 0, 1) := by decide +kernel
theorem dX6_undo_22 : decode cX6_undo 22 = .ok (.getfield 12, 3) := by decide +kernel
theorem dX6_undo_25 : decode cX6_undo 25 = .ok (.invokevirtual 172, 3) := by decide +kernel
theorem dX6_undo_28 : decode cX6_undo 28 = .ok (.aload_n 0, 1) := by decide +kernel
theorem dX6_undo_29 : decode cX6_undo 29 = .ok (.iconst 1, 1) := by decide +kernel
theorem dX6_undo_30 : decode cX6_undo 30 = .ok (.putfield 57, 3) := by decide +kernel
theorem dX6_undo_33 : decode cX6_undo 33 = .ok (.aload_n 0, 1) := by decide +kernel
theorem dX6_undo_34 : decode cX6_undo 34 = .ok (.getfield 19, 3) := by decide +kernel
theorem dX6_undo_37 : decode cX6_undo 37 = .ok (.invokevirtual 169, 3) := by decide +kernel
theorem dX6_undo_40 : decode cX6_undo 40 = .ok (.ireturn, 1) := by decide +kernel
theorem dX6_errorCount_0 : decode cX6_errorCount 0 = .ok (.iload_n 1, 1) := by decide +kernel
theorem dX6_errorCount_1 : decode cX6_errorCount 1 = .ok (.ifCond .lt 19, 3) := by decide +kernel
theorem dX6_errorCount_4 : decode cX6_errorCount 4 = .ok (.iload_n 1, 1) := by decide +kernel
theorem dX6_errorCount_5 : decode cX6_errorCount 5 = .ok (.iconst 3, 1) := by decide +kernel
theorem dX6_errorCount_6 : decode cX6_errorCount 6 = .ok (.if_icmp .ge 14, 3) := by decide +kernel
theorem dX6_errorCount_9 : decode cX6_errorCount 9 = .ok (.aload_n 0, 1) := by decide +kernel
theorem dX6_errorCount_10 : decode cX6_errorCount 10 = .ok (.getfield 32, 3) := by decide +kernel
theorem dX6_errorCount_13 : decode cX6_errorCount 13 = .ok (.iload_n 1, 1) := by decide +kernel
theorem dX6_errorCount_14 : decode cX6_errorCount 14 = .ok (.invokevirtual 98, 3) := by decide +kernel
theorem dX6_errorCount_17 : decode cX6_errorCount 17 = .ok (.goto 9, 3) := by decide +kernel
theorem dX6_errorCount_20 : decode cX6_errorCount 20 = .ok (.aload_n 0, 1) := by decide +kernel
theorem dX6_errorCount_21 : decode cX6_errorCount 21 = .ok (.bipush (-2), 2) := by decide +kernel
theorem dX6_errorCount_23 : decode cX6_errorCount 23 = .ok (.invokevirtual 69, 3) := by decide +kernel
theorem dX6_errorCount_26 : decode cX6_errorCount 26 = .ok (.ireturn, 1) := by decide +kernel
theorem dX6_digest_0 : decode cX6_digest 0 = .ok (.aload_n 0, 1) := by decide +kernel
theorem dX6_digest_1 : decode cX6_digest 1 = .ok (.invokevirtual 121, 3) := by decide +kernel
theorem dX6_digest_4 : decode cX6_digest 4 = .ok (.aload_n 0, 1) := by decide +kernel
theorem dX6_digest_5 : decode cX6_digest 5 = .ok (.getfield 32, 3) := by decide +kernel
theorem dX6_digest_8 : decode cX6_digest 8 = .ok (.ldc2_w 175, 3) := by decide +kernel
theorem dX6_digest_11 : decode cX6_digest 11 = .ok (.iconst 0, 1) := by decide +kernel
theorem dX6_digest_12 : decode cX6_digest 12 = .ok (.iconst 3, 1) := by decide +kernel
theorem dX6_digest_13 : decode cX6_digest 13 = .ok (.invokevirtual 177, 3) := by decide +kernel
theorem dX6_digest_16 : decode cX6_digest 16 = .ok (.lstore_n 1, 1) := by decide +kernel
theorem dX6_digest_17 : decode cX6_digest 17 = .ok (.lload_n 1, 1) := by decide +kernel
theorem dX6_digest_18 : decode cX6_digest 18 = .ok (.aload_n 0, 1) := by decide +kernel
theorem dX6_digest_19 : decode cX6_digest 19 = .ok (.getfield 53, 3) := by decide +kernel
theorem dX6_digest_22 : decode cX6_digest 22 = .ok (.i2l, 1) := by decide +kernel
theorem dX6_digest_23 : decode cX6_digest 23 = .ok (.invokestatic 181, 3) := by decide +kernel
theorem dX6_digest_26 : decode cX6_digest 26 = .ok (.lstore_n 1, 1) := by decide +kernel
theorem dX6_digest_27 : decode cX6_digest 27 = .ok (.lload_n 1, 1) := by decide +kernel
theorem dX6_digest_28 : decode cX6_digest 28 = .ok (.aload_n 0, 1) := by decide +kernel
theorem dX6_digest_29 : decode cX6_digest 29 = .ok (.getfield 19, 3) := by decide +kernel
theorem dX6_digest_32 : decode cX6_digest 32 = .ok (.invokevirtual 169, 3) := by decide +kernel
theorem dX6_digest_35 : decode cX6_digest 35 = .ok (.i2l, 1) := by decide +kernel
theorem dX6_digest_36 : decode cX6_digest 36 = .ok (.invokestatic 181, 3) := by decide +kernel
theorem dX6_digest_39 : decode cX6_digest 39 = .ok (.lstore_n 1, 1) := by decide +kernel
theorem dX6_digest_40 : decode cX6_digest 40 = .ok (.aload_n 0, 1) := by decide +kernel
theorem dX6_digest_41 : decode cX6_digest 41 = .ok (.getfield 12, 3) := by decide +kernel
theorem dX6_digest_44 : decode cX6_digest 44 = .ok (.lload_n 1, 1) := by decide +kernel
theorem dX6_digest_45 : decode cX6_digest 45 = .ok (.invokevirtual 185, 3) := by decide +kernel
theorem dX6_digest_48 : decode cX6_digest 48 = .ok (.lstore_n 1, 1) := by decide +kernel
theorem dX6_digest_49 : decode cX6_digest 49 = .ok (.aload_n 0, 1) := by decide +kernel
theorem dX6_digest_50 : decode cX6_digest 50 = .ok (.getfield 49, 3) := by decide +kernel
theorem dX6_digest_53 : decode cX6_digest 53 = .ok (.lload_n 1, 1) := by decide +kernel
theorem dX6_digest_54 : decode cX6_digest 54 = .ok (.invokevirtual 188, 3) := by decide +kernel
theorem dX6_digest_57 : decode cX6_digest 57 = .ok (.lreturn, 1) := by decide +kernel
theorem dX6_isByte_0 : decode cX6_isByte 0 = .ok (.iload_n 0, 1) := by decide +kernel
theorem dX6_isByte_1 : decode cX6_isByte 1 = .ok (.bipush 32, 2) := by decide +kernel
theorem dX6_isByte_3 : decode cX6_isByte 3 = .ok (.if_icmp .lt 13, 3) := by decide +kernel
theorem dX6_isByte_6 : decode cX6_isByte 6 = .ok (.iload_n 0, 1) := by decide +kernel
theorem dX6_isByte_7 : decode cX6_isByte 7 = .ok (.bipush 126, 2) := by decide +kernel
theorem dX6_isByte_9 : decode cX6_isByte 9 = .ok (.if_icmp .gt 7, 3) := by decide +kernel
theorem dX6_isByte_12 : decode cX6_isByte 12 = .ok (.iconst 1, 1) := by decide +kernel
theorem dX6_isByte_13 : decode cX6_isByte 13 = .ok (.goto 4, 3) := by decide +kernel
theorem dX6_isByte_16 : decode cX6_isByte 16 = .ok (.iconst 0, 1) := by decide +kernel
theorem dX6_isByte_17 : decode cX6_isByte 17 = .ok (.ireturn, 1) := by decide +kernel
theorem dX6_isRule_0 : decode cX6_isRule 0 = .ok (.iload_n 0, 1) := by decide +kernel
theorem dX6_isRule_1 : decode cX6_isRule 1 = .ok (.ifCond .lt 13, 3) := by decide +kernel
theorem dX6_isRule_4 : decode cX6_isRule 4 = .ok (.iload_n 0, 1) := by decide +kernel
theorem dX6_isRule_5 : decode cX6_isRule 5 = .ok (.bipush 6, 2) := by decide +kernel
theorem dX6_isRule_7 : decode cX6_isRule 7 = .ok (.if_icmp .ge 7, 3) := by decide +kernel
theorem dX6_isRule_10 : decode cX6_isRule 10 = .ok (.iconst 1, 1) := by decide +kernel
theorem dX6_isRule_11 : decode cX6_isRule 11 = .ok (.goto 4, 3) := by decide +kernel
theorem dX6_isRule_14 : decode cX6_isRule 14 = .ok (.iconst 0, 1) := by decide +kernel
theorem dX6_isRule_15 : decode cX6_isRule 15 = .ok (.ireturn, 1) := by decide +kernel
theorem dX6_isReference_0 : decode cX6_isReference 0 = .ok (.iload_n 0, 1) := by decide +kernel
theorem dX6_isReference_1 : decode cX6_isReference 1 = .ok (.bipush 65, 2) := by decide +kernel
theorem dX6_isReference_3 : decode cX6_isReference 3 = .ok (.if_icmp .lt 13, 3) := by decide +kernel
theorem dX6_isReference_6 : decode cX6_isReference 6 = .ok (.iload_n 0, 1) := by decide +kernel
theorem dX6_isReference_7 : decode cX6_isReference 7 = .ok (.bipush 70, 2) := by decide +kernel
theorem dX6_isReference_9 : decode cX6_isReference 9 = .ok (.if_icmp .gt 7, 3) := by decide +kernel
theorem dX6_isReference_12 : decode cX6_isReference 12 = .ok (.iconst 1, 1) := by decide +kernel
theorem dX6_isReference_13 : decode cX6_isReference 13 = .ok (.goto 4, 3) := by decide +kernel
theorem dX6_isReference_16 : decode cX6_isReference 16 = .ok (.iconst 0, 1) := by decide +kernel
theorem dX6_isReference_17 : decode cX6_isReference 17 = .ok (.ireturn, 1) := by decide +kernel
theorem dX6_canStartPattern_0 : decode cX6_canStartPattern 0 = .ok (.iload_n 0, 1) := by decide +kernel
theorem dX6_canStartPattern_1 : decode cX6_canStartPattern 1 = .ok (.bipush 126, 2) := by decide +kernel
theorem dX6_canStartPattern_3 : decode cX6_canStartPattern 3 = .ok (.if_icmp .eq 14, 3) := by decide +kernel
theorem dX6_canStartPattern_6 : decode cX6_canStartPattern 6 = .ok (.iload_n 0, 1) := by decide +kernel
theorem dX6_canStartPattern_7 : decode cX6_canStartPattern 7 = .ok (.invokestatic 189, 3) := by decide +kernel
theorem dX6_canStartPattern_10 : decode cX6_canStartPattern 10 = .ok (.ifCond .ne 7, 3) := by decide +kernel
theorem dX6_canStartPattern_13 : decode cX6_canStartPattern 13 = .ok (.iconst 1, 1) := by decide +kernel
theorem dX6_canStartPattern_14 : decode cX6_canStartPattern 14 = .ok (.goto 4, 3) := by decide +kernel
theorem dX6_canStartPattern_17 : decode cX6_canStartPattern 17 = .ok (.iconst 0, 1) := by decide +kernel
theorem dX6_canStartPattern_18 : decode cX6_canStartPattern 18 = .ok (.ireturn, 1) := by decide +kernel
theorem dX6_isDigit_0 : decode cX6_isDigit 0 = .ok (.iload_n 0, 1) := by decide +kernel
theorem dX6_isDigit_1 : decode cX6_isDigit 1 = .ok (.bipush 48, 2) := by decide +kernel
theorem dX6_isDigit_3 : decode cX6_isDigit 3 = .ok (.if_icmp .lt 13, 3) := by decide +kernel
theorem dX6_isDigit_6 : decode cX6_isDigit 6 = .ok (.iload_n 0, 1) := by decide +kernel
theorem dX6_isDigit_7 : decode cX6_isDigit 7 = .ok (.bipush 57, 2) := by decide +kernel
theorem dX6_isDigit_9 : decode cX6_isDigit 9 = .ok (.if_icmp .gt 7, 3) := by decide +kernel
theorem dX6_isDigit_12 : decode cX6_isDigit 12 = .ok (.iconst 1, 1) := by decide +kernel
theorem dX6_isDigit_13 : decode cX6_isDigit 13 = .ok (.goto 4, 3) := by decide +kernel
theorem dX6_isDigit_16 : decode cX6_isDigit 16 = .ok (.iconst 0, 1) := by decide +kernel
theorem dX6_isDigit_17 : decode cX6_isDigit 17 = .ok (.ireturn, 1) := by decide +kernel
theorem dX6_isLetter_0 : decode cX6_isLetter 0 = .ok (.iload_n 0, 1) := by decide +kernel
theorem dX6_isLetter_1 : decode cX6_isLetter 1 = .ok (.bipush 97, 2) := by decide +kernel
theorem dX6_isLetter_3 : decode cX6_isLetter 3 = .ok (.if_icmp .lt 13, 3) := by decide +kernel
theorem dX6_isLetter_6 : decode cX6_isLetter 6 = .ok (.iload_n 0, 1) := by decide +kernel
theorem dX6_isLetter_7 : decode cX6_isLetter 7 = .ok (.bipush 122, 2) := by decide +kernel
theorem dX6_isLetter_9 : decode cX6_isLetter 9 = .ok (.if_icmp .gt 7, 3) := by decide +kernel
theorem dX6_isLetter_12 : decode cX6_isLetter 12 = .ok (.iconst 1, 1) := by decide +kernel
theorem dX6_isLetter_13 : decode cX6_isLetter 13 = .ok (.goto 4, 3) := by decide +kernel
theorem dX6_isLetter_16 : decode cX6_isLetter 16 = .ok (.iconst 0, 1) := by decide +kernel
theorem dX6_isLetter_17 : decode cX6_isLetter 17 = .ok (.ireturn, 1) := by decide +kernel
theorem dX6_mix_0 : decode cX6_mix 0 = .ok (.ldc2_w 192, 3) := by decide +kernel
theorem dX6_mix_3 : decode cX6_mix 3 = .ok (.lload_n 0, 1) := by decide +kernel
theorem dX6_mix_4 : decode cX6_mix 4 = .ok (.lmul, 1) := by decide +kernel
theorem dX6_mix_5 : decode cX6_mix 5 = .ok (.lload_n 2, 1) := by decide +kernel
theorem dX6_mix_6 : decode cX6_mix 6 = .ok (.ladd, 1) := by decide +kernel
theorem dX6_mix_7 : decode cX6_mix 7 = .ok (.lreturn, 1) := by decide +kernel
theorem dX6_isInText_0 : decode cX6_isInText 0 = .ok (.iload_n 1, 1) := by decide +kernel
theorem dX6_isInText_1 : decode cX6_isInText 1 = .ok (.ifCond .lt 18, 3) := by decide +kernel
theorem dX6_isInText_4 : decode cX6_isInText 4 = .ok (.iload_n 1, 1) := by decide +kernel
theorem dX6_isInText_5 : decode cX6_isInText 5 = .ok (.aload_n 0, 1) := by decide +kernel
theorem dX6_isInText_6 : decode cX6_isInText 6 = .ok (.getfield 12, 3) := by decide +kernel
theorem dX6_isInText_9 : decode cX6_isInText 9 = .ok (.invokevirtual 61, 3) := by decide +kernel
theorem dX6_isInText_12 : decode cX6_isInText 12 = .ok (.if_icmp .ge 7, 3) := by decide +kernel
theorem dX6_isInText_15 : decode cX6_isInText 15 = .ok (.iconst 1, 1) := by decide +kernel
theorem dX6_isInText_16 : decode cX6_isInText 16 = .ok (.goto 4, 3) := by decide +kernel
theorem dX6_isInText_19 : decode cX6_isInText 19 = .ok (.iconst 0, 1) := by decide +kernel
theorem dX6_isInText_20 : decode cX6_isInText 20 = .ok (.ireturn, 1) := by decide +kernel
theorem dX6_fail_0 : decode cX6_fail 0 = .ok (.bipush (-2), 2) := by decide +kernel
theorem dX6_fail_2 : decode cX6_fail 2 = .ok (.iload_n 1, 1) := by decide +kernel
theorem dX6_fail_3 : decode cX6_fail 3 = .ok (.isub, 1) := by decide +kernel
theorem dX6_fail_4 : decode cX6_fail 4 = .ok (.istore_n 2, 1) := by decide +kernel
theorem dX6_fail_5 : decode cX6_fail 5 = .ok (.aload_n 0, 1) := by decide +kernel
theorem dX6_fail_6 : decode cX6_fail 6 = .ok (.getfield 32, 3) := by decide +kernel
theorem dX6_fail_9 : decode cX6_fail 9 = .ok (.iload_n 2, 1) := by decide +kernel
theorem dX6_fail_10 : decode cX6_fail 10 = .ok (.aload_n 0, 1) := by decide +kernel
theorem dX6_fail_11 : decode cX6_fail 11 = .ok (.getfield 32, 3) := by decide +kernel
theorem dX6_fail_14 : decode cX6_fail 14 = .ok (.iload_n 2, 1) := by decide +kernel
theorem dX6_fail_15 : decode cX6_fail 15 = .ok (.invokevirtual 98, 3) := by decide +kernel
theorem dX6_fail_18 : decode cX6_fail 18 = .ok (.iconst 1, 1) := by decide +kernel
theorem dX6_fail_19 : decode cX6_fail 19 = .ok (.iadd, 1) := by decide +kernel
theorem dX6_fail_20 : decode cX6_fail 20 = .ok (.invokevirtual 92, 3) := by decide +kernel
theorem dX6_fail_23 : decode cX6_fail 23 = .ok (.iload_n 1, 1) := by decide +kernel
theorem dX6_fail_24 : decode cX6_fail 24 = .ok (.ireturn, 1) := by decide +kernel
theorem dX6_prepareChange_0 : decode cX6_prepareChange 0 = .ok (.aload_n 0, 1) := by decide +kernel
theorem dX6_prepareChange_1 : decode cX6_prepareChange 1 = .ok (.getfield 19, 3) := by decide +kernel
theorem dX6_prepareChange_4 : decode cX6_prepareChange 4 = .ok (.aload_n 0, 1) := by decide +kernel
theorem dX6_prepareChange_5 : decode cX6_prepareChange 5 = .ok (.getfield 12, 3) := by decide +kernel
theorem dX6_prepareChange_8 : decode cX6_prepareChange 8 = .ok (.invokevirtual 194, 3) := by decide +kernel
theorem dX6_prepareChange_11 : decode cX6_prepareChange 11 = .ok (.aload_n 0, 1) := by decide +kernel
theorem dX6_prepareChange_12 : decode cX6_prepareChange 12 = .ok (.iconst 1, 1) := by decide +kernel
theorem dX6_prepareChange_13 : decode cX6_prepareChange 13 = .ok (.putfield 57, 3) := by decide +kernel
theorem dX6_prepareChange_16 : decode cX6_prepareChange 16 = .ok (.return_, 1) := by decide +kernel
theorem dX6_refresh_0 : decode cX6_refresh 0 = .ok (.aload_n 0, 1) := by decide +kernel
theorem dX6_refresh_1 : decode cX6_refresh 1 = .ok (.getfield 57, 3) := by decide +kernel
theorem dX6_refresh_4 : decode cX6_refresh 4 = .ok (.ifCond .eq 22, 3) := by decide +kernel
theorem dX6_refresh_7 : decode cX6_refresh 7 = .ok (.aload_n 0, 1) := by decide +kernel
theorem dX6_refresh_8 : decode cX6_refresh 8 = .ok (.getfield 40, 3) := by decide +kernel
theorem dX6_refresh_11 : decode cX6_refresh 11 = .ok (.invokevirtual 197, 3) := by decide +kernel
theorem dX6_refresh_14 : decode cX6_refresh 14 = .ok (.aload_n 0, 1) := by decide +kernel
theorem dX6_refresh_15 : decode cX6_refresh 15 = .ok (.getfield 49, 3) := by decide +kernel
theorem dX6_refresh_18 : decode cX6_refresh 18 = .ok (.invokevirtual 200, 3) := by decide +kernel
theorem dX6_refresh_21 : decode cX6_refresh 21 = .ok (.aload_n 0, 1) := by decide +kernel
theorem dX6_refresh_22 : decode cX6_refresh 22 = .ok (.iconst 0, 1) := by decide +kernel
theorem dX6_refresh_23 : decode cX6_refresh 23 = .ok (.putfield 57, 3) := by decide +kernel
theorem dX6_refresh_26 : decode cX6_refresh 26 = .ok (.return_, 1) := by decide +kernel
theorem dX7_init_0 : decode cX7_init 0 = .ok (.aload_n 0, 1) := by decide +kernel
theorem dX7_init_1 : decode cX7_init 1 = .ok (.invokespecial 1, 3) := by decide +kernel
theorem dX7_init_4 : decode cX7_init 4 = .ok (.aload_n 0, 1) := by decide +kernel
theorem dX7_init_5 : decode cX7_init 5 = .ok (.sipush 161, 3) := by decide +kernel
theorem dX7_init_8 : decode cX7_init 8 = .ok (.newarray .int, 2) := by decide +kernel
theorem dX7_init_10 : decode cX7_init 10 = .ok (.putfield 7, 3) := by decide +kernel
theorem dX7_init_13 : decode cX7_init 13 = .ok (.aload_n 0, 1) := by decide +kernel
theorem dX7_init_14 : decode cX7_init 14 = .ok (.sipush 644, 3) := by decide +kernel
theorem dX7_init_17 : decode cX7_init 17 = .ok (.newarray .int, 2) := by decide +kernel
theorem dX7_init_19 : decode cX7_init 19 = .ok (.putfield 13, 3) := by decide +kernel
theorem dX7_init_22 : decode cX7_init 22 = .ok (.aload_n 0, 1) := by decide +kernel
theorem dX7_init_23 : decode cX7_init 23 = .ok (.bipush 8, 2) := by decide +kernel
theorem dX7_init_25 : decode cX7_init 25 = .ok (.newarray .int, 2) := by decide +kernel
theorem dX7_init_27 : decode cX7_init 27 = .ok (.putfield 16, 3) := by decide +kernel
theorem dX7_init_30 : decode cX7_init 30 = .ok (.aload_n 0, 1) := by decide +kernel
theorem dX7_init_31 : decode cX7_init 31 = .ok (.iconst 3, 1) := by decide +kernel
theorem dX7_init_32 : decode cX7_init 32 = .ok (.newarray .int, 2) := by decide +kernel
end
section
theorem dX7_init_34 : decode cX7_init 34 = .ok (.putfield 19, 3) := by decide +kernel
theorem dX7_init_37 : decode cX7_init 37 = .ok (.aload_n 0, 1) := by decide +kernel
theorem dX7_init_38 : decode cX7_init 38 = .ok (.sipush 5454, 3) := by decide +kernel
theorem dX7_init_41 : decode cX7_init 41 = .ok (.newarray .int, 2) := by decide +kernel
theorem dX7_init_43 : decode cX7_init 43 = .ok (.putfield 22, 3) := by decide +kernel
theorem dX7_init_46 : decode cX7_init 46 = .ok (.aload_n 0, 1) := by decide +kernel
theorem dX7_init_47 : decode cX7_init 47 = .ok (.bipush 100, 2) := by decide +kernel
theorem dX7_init_49 : decode cX7_init 49 = .ok (.newarray .int, 2) := by decide +kernel
theorem dX7_init_51 : decode cX7_init 51 = .ok (.putfield 25, 3) := by decide +kernel
theorem dX7_init_54 : decode cX7_init 54 = .ok (.aload_n 0, 1) := by decide +kernel
theorem dX7_init_55 : decode cX7_init 55 = .ok (.bipush 100, 2) := by decide +kernel
theorem dX7_init_57 : decode cX7_init 57 = .ok (.newarray .int, 2) := by decide +kernel
theorem dX7_init_59 : decode cX7_init 59 = .ok (.putfield 28, 3) := by decide +kernel
theorem dX7_init_62 : decode cX7_init 62 = .ok (.aload_n 0, 1) := by decide +kernel
theorem dX7_init_63 : decode cX7_init 63 = .ok (.bipush 100, 2) := by decide +kernel
theorem dX7_init_65 : decode cX7_init 65 = .ok (.newarray .int, 2) := by decide +kernel
theorem dX7_init_67 : decode cX7_init 67 = .ok (.putfield 31, 3) := by decide +kernel
theorem dX7_init_70 : decode cX7_init 70 = .ok (.aload_n 0, 1) := by decide +kernel
theorem dX7_init_71 : decode cX7_init 71 = .ok (.bipush 100, 2) := by decide +kernel
theorem dX7_init_73 : decode cX7_init 73 = .ok (.newarray .int, 2) := by decide +kernel
theorem dX7_init_75 : decode cX7_init 75 = .ok (.putfield 34, 3) := by decide +kernel
theorem dX7_init_78 : decode cX7_init 78 = .ok (.aload_n 0, 1) := by decide +kernel
theorem dX7_init_79 : decode cX7_init 79 = .ok (.bipush 100, 2) := by decide +kernel
theorem dX7_init_81 : decode cX7_init 81 = .ok (.newarray .int, 2) := by decide +kernel
theorem dX7_init_83 : decode cX7_init 83 = .ok (.putfield 37, 3) := by decide +kernel
theorem dX7_init_86 : decode cX7_init 86 = .ok (.iconst 0, 1) := by decide +kernel
theorem dX7_init_87 : decode cX7_init 87 = .ok (.istore_n 1, 1) := by decide +kernel
theorem dX7_init_88 : decode cX7_init 88 = .ok (.iload_n 1, 1) := by decide +kernel
theorem dX7_init_89 : decode cX7_init 89 = .ok (.bipush 6, 2) := by decide +kernel
theorem dX7_init_91 : decode cX7_init 91 = .ok (.if_icmp .ge 20, 3) := by decide +kernel
theorem dX7_init_94 : decode cX7_init 94 = .ok (.aload_n 0, 1) := by decide +kernel
theorem dX7_init_95 : decode cX7_init 95 = .ok (.getfield 7, 3) := by decide +kernel
theorem dX7_init_98 : decode cX7_init 98 = .ok (.sipush 155, 3) := by decide +kernel
theorem dX7_init_101 : decode cX7_init 101 = .ok (.iload_n 1, 1) := by decide +kernel
theorem dX7_init_102 : decode cX7_init 102 = .ok (.iadd, 1) := by decide +kernel
theorem dX7_init_103 : decode cX7_init 103 = .ok (.iconst (-1), 1) := by decide +kernel
theorem dX7_init_104 : decode cX7_init 104 = .ok (.iastore, 1) := by decide +kernel
theorem dX7_init_105 : decode cX7_init 105 = .ok (.iinc 1 1, 3) := by decide +kernel
theorem dX7_init_108 : decode cX7_init 108 = .ok (.goto (-20), 3) := by decide +kernel
theorem dX7_init_111 : decode cX7_init 111 = .ok (.return_, 1) := by decide +kernel
theorem dX7_in_0 : decode cX7_in 0 = .ok (.iload_n 0, 1) := by decide +kernel
theorem dX7_in_1 : decode cX7_in 1 = .ok (.iload_n 1, 1) := by decide +kernel
theorem dX7_in_2 : decode cX7_in 2 = .ok (.if_icmp .lt 12, 3) := by decide +kernel
theorem dX7_in_5 : decode cX7_in 5 = .ok (.iload_n 0, 1) := by decide +kernel
theorem dX7_in_6 : decode cX7_in 6 = .ok (.iload_n 2, 1) := by decide +kernel
theorem dX7_in_7 : decode cX7_in 7 = .ok (.if_icmp .gt 7, 3) := by decide +kernel
theorem dX7_in_10 : decode cX7_in 10 = .ok (.iconst 1, 1) := by decide +kernel
theorem dX7_in_11 : decode cX7_in 11 = .ok (.goto 4, 3) := by decide +kernel
theorem dX7_in_14 : decode cX7_in 14 = .ok (.iconst 0, 1) := by decide +kernel
theorem dX7_in_15 : decode cX7_in 15 = .ok (.ireturn, 1) := by decide +kernel
theorem dX7_fail_0 : decode cX7_fail 0 = .ok (.aload_n 0, 1) := by decide +kernel
theorem dX7_fail_1 : decode cX7_fail 1 = .ok (.getfield 19, 3) := by decide +kernel
theorem dX7_fail_4 : decode cX7_fail 4 = .ok (.bipush (-2), 2) := by decide +kernel
theorem dX7_fail_6 : decode cX7_fail 6 = .ok (.iload_n 1, 1) := by decide +kernel
theorem dX7_fail_7 : decode cX7_fail 7 = .ok (.isub, 1) := by decide +kernel
theorem dX7_fail_8 : decode cX7_fail 8 = .ok (.dup2, 1) := by decide +kernel
theorem dX7_fail_9 : decode cX7_fail 9 = .ok (.iaload, 1) := by decide +kernel
theorem dX7_fail_10 : decode cX7_fail 10 = .ok (.iconst 1, 1) := by decide +kernel
theorem dX7_fail_11 : decode cX7_fail 11 = .ok (.iadd, 1) := by decide +kernel
theorem dX7_fail_12 : decode cX7_fail 12 = .ok (.iastore, 1) := by decide +kernel
theorem dX7_fail_13 : decode cX7_fail 13 = .ok (.iload_n 1, 1) := by decide +kernel
theorem dX7_fail_14 : decode cX7_fail 14 = .ok (.ireturn, 1) := by decide +kernel
theorem dX7_save_0 : decode cX7_save 0 = .ok (.aload_n 0, 1) := by decide +kernel
theorem dX7_save_1 : decode cX7_save 1 = .ok (.getfield 40, 3) := by decide +kernel
theorem dX7_save_4 : decode cX7_save 4 = .ok (.iconst 4, 1) := by decide +kernel
theorem dX7_save_5 : decode cX7_save 5 = .ok (.if_icmp .ne 44, 3) := by decide +kernel
theorem dX7_save_8 : decode cX7_save 8 = .ok (.iconst 0, 1) := by decide +kernel
theorem dX7_save_9 : decode cX7_save 9 = .ok (.istore_n 1, 1) := by decide +kernel
theorem dX7_save_10 : decode cX7_save 10 = .ok (.iload_n 1, 1) := by decide +kernel
theorem dX7_save_11 : decode cX7_save 11 = .ok (.sipush 483, 3) := by decide +kernel
theorem dX7_save_14 : decode cX7_save 14 = .ok (.if_icmp .ge 25, 3) := by decide +kernel
theorem dX7_save_17 : decode cX7_save 17 = .ok (.aload_n 0, 1) := by decide +kernel
theorem dX7_save_18 : decode cX7_save 18 = .ok (.getfield 13, 3) := by decide +kernel
theorem dX7_save_21 : decode cX7_save 21 = .ok (.iload_n 1, 1) := by decide +kernel
theorem dX7_save_22 : decode cX7_save 22 = .ok (.aload_n 0, 1) := by decide +kernel
theorem dX7_save_23 : decode cX7_save 23 = .ok (.getfield 13, 3) := by decide +kernel
theorem dX7_save_26 : decode cX7_save 26 = .ok (.iload_n 1, 1) := by decide +kernel
theorem dX7_save_27 : decode cX7_save 27 = .ok (.sipush 161, 3) := by decide +kernel
theorem dX7_save_30 : decode cX7_save 30 = .ok (.iadd, 1) := by decide +kernel
theorem dX7_save_31 : decode cX7_save 31 = .ok (.iaload, 1) := by decide +kernel
theorem dX7_save_32 : decode cX7_save 32 = .ok (.iastore, 1) := by decide +kernel
theorem dX7_save_33 : decode cX7_save 33 = .ok (.iinc 1 1, 3) := by decide +kernel
theorem dX7_save_36 : decode cX7_save 36 = .ok (.goto (-26), 3) := by decide +kernel
theorem dX7_save_39 : decode cX7_save 39 = .ok (.aload_n 0, 1) := by decide +kernel
theorem dX7_save_40 : decode cX7_save 40 = .ok (.dup, 1) := by decide +kernel
theorem dX7_save_41 : decode cX7_save 41 = .ok (.getfield 40, 3) := by decide +kernel
theorem dX7_save_44 : decode cX7_save 44 = .ok (.iconst 1, 1) := by decide +kernel
theorem dX7_save_45 : decode cX7_save 45 = .ok (.isub, 1) := by decide +kernel
theorem dX7_save_46 : decode cX7_save 46 = .ok (.putfield 40, 3) := by decide +kernel
theorem dX7_save_49 : decode cX7_save 49 = .ok (.iconst 0, 1) := by decide +kernel
theorem dX7_save_50 : decode cX7_save 50 = .ok (.istore_n 1, 1) := by decide +kernel
theorem dX7_save_51 : decode cX7_save 51 = .ok (.iload_n 1, 1) := by decide +kernel
theorem dX7_save_52 : decode cX7_save 52 = .ok (.sipush 161, 3) := by decide +kernel
theorem dX7_save_55 : decode cX7_save 55 = .ok (.if_icmp .ge 30, 3) := by decide +kernel
theorem dX7_save_58 : decode cX7_save 58 = .ok (.aload_n 0, 1) := by decide +kernel
theorem dX7_save_59 : decode cX7_save 59 = .ok (.getfield 13, 3) := by decide +kernel
theorem dX7_save_62 : decode cX7_save 62 = .ok (.sipush 161, 3) := by decide +kernel
theorem dX7_save_65 : decode cX7_save 65 = .ok (.aload_n 0, 1) := by decide +kernel
theorem dX7_save_66 : decode cX7_save 66 = .ok (.getfield 40, 3) := by decide +kernel
theorem dX7_save_69 : decode cX7_save 69 = .ok (.imul, 1) := by decide +kernel
theorem dX7_save_70 : decode cX7_save 70 = .ok (.iload_n 1, 1) := by decide +kernel
theorem dX7_save_71 : decode cX7_save 71 = .ok (.iadd, 1) := by decide +kernel
theorem dX7_save_72 : decode cX7_save 72 = .ok (.aload_n 0, 1) := by decide +kernel
theorem dX7_save_73 : decode cX7_save 73 = .ok (.getfield 7, 3) := by decide +kernel
theorem dX7_save_76 : decode cX7_save 76 = .ok (.iload_n 1, 1) := by decide +kernel
theorem dX7_save_77 : decode cX7_save 77 = .ok (.iaload, 1) := by decide +kernel
theorem dX7_save_78 : decode cX7_save 78 = .ok (.iastore, 1) := by decide +kernel
theorem dX7_save_79 : decode cX7_save 79 = .ok (.iinc 1 1, 3) := by decide +kernel
theorem dX7_save_82 : decode cX7_save 82 = .ok (.goto (-31), 3) := by decide +kernel
theorem dX7_save_85 : decode cX7_save 85 = .ok (.aload_n 0, 1) := by decide +kernel
theorem dX7_save_86 : decode cX7_save 86 = .ok (.dup, 1) := by decide +kernel
theorem dX7_save_87 : decode cX7_save 87 = .ok (.getfield 40, 3) := by decide +kernel
theorem dX7_save_90 : decode cX7_save 90 = .ok (.iconst 1, 1) := by decide +kernel
theorem dX7_save_91 : decode cX7_save 91 = .ok (.iadd, 1) := by decide +kernel
theorem dX7_save_92 : decode cX7_save 92 = .ok (.putfield 40, 3) := by decide +kernel
theorem dX7_save_95 : decode cX7_save 95 = .ok (.return_, 1) := by decide +kernel
theorem dX7_isByte_0 : decode cX7_isByte 0 = .ok (.iload_n 0, 1) := by decide +kernel
theorem dX7_isByte_1 : decode cX7_isByte 1 = .ok (.bipush 32, 2) := by decide +kernel
theorem dX7_isByte_3 : decode cX7_isByte 3 = .ok (.bipush 126, 2) := by decide +kernel
theorem dX7_isByte_5 : decode cX7_isByte 5 = .ok (.invokestatic 44, 3) := by decide +kernel
theorem dX7_isByte_8 : decode cX7_isByte 8 = .ok (.ireturn, 1) := by decide +kernel
theorem dX7_isPosition_0 : decode cX7_isPosition 0 = .ok (.iload_n 1, 1) := by decide +kernel
theorem dX7_isPosition_1 : decode cX7_isPosition 1 = .ok (.iconst 0, 1) := by decide +kernel
theorem dX7_isPosition_2 : decode cX7_isPosition 2 = .ok (.aload_n 0, 1) := by decide +kernel
theorem dX7_isPosition_3 : decode cX7_isPosition 3 = .ok (.getfield 7, 3) := by decide +kernel
theorem dX7_isPosition_6 : decode cX7_isPosition 6 = .ok (.iconst 0, 1) := by decide +kernel
theorem dX7_isPosition_7 : decode cX7_isPosition 7 = .ok (.iaload, 1) := by decide +kernel
theorem dX7_isPosition_8 : decode cX7_isPosition 8 = .ok (.iconst 1, 1) := by decide +kernel
theorem dX7_isPosition_9 : decode cX7_isPosition 9 = .ok (.isub, 1) := by decide +kernel
theorem dX7_isPosition_10 : decode cX7_isPosition 10 = .ok (.invokestatic 44, 3) := by decide +kernel
theorem dX7_isPosition_13 : decode cX7_isPosition 13 = .ok (.ireturn, 1) := by decide +kernel
theorem dX7_insert_0 : decode cX7_insert 0 = .ok (.iload_n 1, 1) := by decide +kernel
theorem dX7_insert_1 : decode cX7_insert 1 = .ok (.iconst 0, 1) := by decide +kernel
theorem dX7_insert_2 : decode cX7_insert 2 = .ok (.aload_n 0, 1) := by decide +kernel
theorem dX7_insert_3 : decode cX7_insert 3 = .ok (.getfield 7, 3) := by decide +kernel
theorem dX7_insert_6 : decode cX7_insert 6 = .ok (.iconst 0, 1) := by decide +kernel
theorem dX7_insert_7 : decode cX7_insert 7 = .ok (.iaload, 1) := by decide +kernel
theorem dX7_insert_8 : decode cX7_insert 8 = .ok (.invokestatic 44, 3) := by decide +kernel
theorem dX7_insert_11 : decode cX7_insert 11 = .ok (.ifCond .eq 10, 3) := by decide +kernel
theorem dX7_insert_14 : decode cX7_insert 14 = .ok (.iload_n 2, 1) := by decide +kernel
theorem dX7_insert_15 : decode cX7_insert 15 = .ok (.invokestatic 48, 3) := by decide +kernel
theorem dX7_insert_18 : decode cX7_insert 18 = .ok (.ifCond .ne 10, 3) := by decide +kernel
theorem dX7_insert_21 : decode cX7_insert 21 = .ok (.aload_n 0, 1) := by decide +kernel
theorem dX7_insert_22 : decode cX7_insert 22 = .ok (.bipush (-2), 2) := by decide +kernel
theorem dX7_insert_24 : decode cX7_insert 24 = .ok (.invokevirtual 52, 3) := by decide +kernel
theorem dX7_insert_27 : decode cX7_insert 27 = .ok (.ireturn, 1) := by decide +kernel
theorem dX7_insert_28 : decode cX7_insert 28 = .ok (.aload_n 0, 1) := by decide +kernel
theorem dX7_insert_29 : decode cX7_insert 29 = .ok (.getfield 7, 3) := by decide +kernel
theorem dX7_insert_32 : decode cX7_insert 32 = .ok (.iconst 0, 1) := by decide +kernel
theorem dX7_insert_33 : decode cX7_insert 33 = .ok (.iaload, 1) := by decide +kernel
theorem dX7_insert_34 : decode cX7_insert 34 = .ok (.bipush 100, 2) := by decide +kernel
theorem dX7_insert_36 : decode cX7_insert 36 = .ok (.if_icmp .ne 10, 3) := by decide +kernel
theorem dX7_insert_39 : decode cX7_insert 39 = .ok (.aload_n 0, 1) := by decide +kernel
theorem dX7_insert_40 : decode cX7_insert 40 = .ok (.bipush (-4), 2) := by decide +kernel
theorem dX7_insert_42 : decode cX7_insert 42 = .ok (.invokevirtual 52, 3) := by decide +kernel
theorem dX7_insert_45 : decode cX7_insert 45 = .ok (.ireturn, 1) := by decide +kernel
theorem dX7_insert_46 : decode cX7_insert 46 = .ok (.aload_n 0, 1) := by decide +kernel
theorem dX7_insert_47 : decode cX7_insert 47 = .ok (.invokevirtual 56, 3) := by decide +kernel
theorem dX7_insert_50 : decode cX7_insert 50 = .ok (.aload_n 0, 1) := by decide +kernel
theorem dX7_insert_51 : decode cX7_insert 51 = .ok (.getfield 7, 3) := by decide +kernel
theorem dX7_insert_54 : decode cX7_insert 54 = .ok (.iconst 0, 1) := by decide +kernel
theorem dX7_insert_55 : decode cX7_insert 55 = .ok (.iaload, 1) := by decide +kernel
theorem dX7_insert_56 : decode cX7_insert 56 = .ok (.istore_n 3, 1) := by decide +kernel
theorem dX7_insert_57 : decode cX7_insert 57 = .ok (.iload_n 3, 1) := by decide +kernel
theorem dX7_insert_58 : decode cX7_insert 58 = .ok (.iload_n 1, 1) := by decide +kernel
theorem dX7_insert_59 : decode cX7_insert 59 = .ok (.if_icmp .le 27, 3) := by decide +kernel
theorem dX7_insert_62 : decode cX7_insert 62 = .ok (.aload_n 0, 1) := by decide +kernel
theorem dX7_insert_63 : decode cX7_insert 63 = .ok (.getfield 7, 3) := by decide +kernel
theorem dX7_insert_66 : decode cX7_insert 66 = .ok (.iconst 1, 1) := by decide +kernel
theorem dX7_insert_67 : decode cX7_insert 67 = .ok (.iload_n 3, 1) := by decide +kernel
theorem dX7_insert_68 : decode cX7_insert 68 = .ok (.iadd, 1) := by decide +kernel
theorem dX7_insert_69 : decode cX7_insert 69 = .ok (.aload_n 0, 1) := by decide +kernel
theorem dX7_insert_70 : decode cX7_insert 70 = .ok (.getfield 7, 3) := by decide +kernel
theorem dX7_insert_73 : decode cX7_insert 73 = .ok (.iconst 1, 1) := by decide +kernel
theorem dX7_insert_74 : decode cX7_insert 74 = .ok (.iload_n 3, 1) := by decide +kernel
theorem dX7_insert_75 : decode cX7_insert 75 = .ok (.iadd, 1) := by decide +kernel
theorem dX7_insert_76 : decode cX7_insert 76 = .ok (.iconst 1, 1) := by decide +kernel
theorem dX7_insert_77 : decode cX7_insert 77 = .ok (.isub, 1) := by decide +kernel
theorem dX7_insert_78 : decode cX7_insert 78 = .ok (.iaload, 1) := by decide +kernel
theorem dX7_insert_79 : decode cX7_insert 79 = .ok (.iastore, 1) := by decide +kernel
theorem dX7_insert_80 : decode cX7_insert 80 = .ok (.iinc 3 (-1), 3) := by decide +kernel
theorem dX7_insert_83 : decode cX7_insert 83 = .ok (.goto (-26), 3) := by decide +kernel
theorem dX7_insert_86 : decode cX7_insert 86 = .ok (.aload_n 0, 1) := by decide +kernel
theorem dX7_insert_87 : decode cX7_insert 87 = .ok (.getfield 7, 3) := by decide +kernel
theorem dX7_insert_90 : decode cX7_insert 90 = .ok (.iconst 1, 1) := by decide +kernel
theorem dX7_insert_91 : decode cX7_insert 91 = .ok (.iload_n 1, 1) := by decide +kernel
theorem dX7_insert_92 : decode cX7_insert 92 = .ok (.iadd, 1) := by decide +kernel
theorem dX7_insert_93 : decode cX7_insert 93 = .ok (.iload_n 2, 1) := by decide +kernel
theorem dX7_insert_94 : decode cX7_insert 94 = .ok (.iastore, 1) := by decide +kernel
theorem dX7_insert_95 : decode cX7_insert 95 = .ok (.aload_n 0, 1) := by decide +kernel
theorem dX7_insert_96 : decode cX7_insert 96 = .ok (.getfield 7, 3) := by decide +kernel
theorem dX7_insert_99 : decode cX7_insert 99 = .ok (.iconst 0, 1) := by decide +kernel
theorem dX7_insert_100 : decode cX7_insert 100 = .ok (.dup2, 1) := by decide +kernel
theorem dX7_insert_101 : decode cX7_insert 101 = .ok (.iaload, 1) := by decide +kernel
theorem dX7_insert_102 : decode cX7_insert 102 = .ok (.iconst 1, 1) := by decide +kernel
theorem dX7_insert_103 : decode cX7_insert 103 = .ok (.iadd, 1) := by decide +kernel
theorem dX7_insert_104 : decode cX7_insert 104 = .ok (.iastore, 1) := by decide +kernel
theorem dX7_insert_105 : decode cX7_insert 105 = .ok (.aload_n 0, 1) := by decide +kernel
theorem dX7_insert_106 : decode cX7_insert 106 = .ok (.getfield 7, 3) := by decide +kernel
theorem dX7_insert_109 : decode cX7_insert 109 = .ok (.iconst 0, 1) := by decide +kernel
theorem dX7_insert_110 : decode cX7_insert 110 = .ok (.iaload, 1) := by decide +kernel
theorem dX7_insert_111 : decode cX7_insert 111 = .ok (.ireturn, 1) := by decide +kernel
theorem dX7_replace_0 : decode cX7_replace 0 = .ok (.aload_n 0, 1) := by decide +kernel
theorem dX7_replace_1 : decode cX7_replace 1 = .ok (.iload_n 1, 1) := by decide +kernel
theorem dX7_replace_2 : decode cX7_replace 2 = .ok (.invokevirtual 59, 3) := by decide +kernel
theorem dX7_replace_5 : decode cX7_replace 5 = .ok (.ifCond .eq 10, 3) := by decide +kernel
theorem dX7_replace_8 : decode cX7_replace 8 = .ok (.iload_n 2, 1) := by decide +kernel
theorem dX7_replace_9 : decode cX7_replace 9 = .ok (.invokestatic 48, 3) := by decide +kernel
theorem dX7_replace_12 : decode cX7_replace 12 = .ok (.ifCond .ne 10, 3) := by decide +kernel
theorem dX7_replace_15 : decode cX7_replace 15 = .ok (.aload_n 0, 1) := by decide +kernel
theorem dX7_replace_16 : decode cX7_replace 16 = .ok (.bipush (-2), 2) := by decide +kernel
theorem dX7_replace_18 : decode cX7_replace 18 = .ok (.invokevirtual 52, 3) := by decide +kernel
theorem dX7_replace_21 : decode cX7_replace 21 = .ok (.ireturn, 1) := by decide +kernel
theorem dX7_replace_22 : decode cX7_replace 22 = .ok (.aload_n 0, 1) := by decide +kernel
theorem dX7_replace_23 : decode cX7_replace 23 = .ok (.invokevirtual 56, 3) := by decide +kernel
theorem dX7_replace_26 : decode cX7_replace 26 = .ok (.aload_n 0, 1) := by decide +kernel
theorem dX7_replace_27 : decode cX7_replace 27 = .ok (.getfield 7, 3) := by decide +kernel
theorem dX7_replace_30 : decode cX7_replace 30 = .ok (.iconst 1, 1) := by decide +kernel
theorem dX7_replace_31 : decode cX7_replace 31 = .ok (.iload_n 1, 1) := by decide +kernel
theorem dX7_replace_32 : decode cX7_replace 32 = .ok (.iadd, 1) := by decide +kernel
theorem dX7_replace_33 : decode cX7_replace 33 = .ok (.iaload, 1) := by decide +kernel
theorem dX7_replace_34 : decode cX7_replace 34 = .ok (.istore_n 3, 1) := by decide +kernel
theorem dX7_replace_35 : decode cX7_replace 35 = .ok (.aload_n 0, 1) := by decide +kernel
theorem dX7_replace_36 : decode cX7_replace 36 = .ok (.getfield 7, 3) := by decide +kernel
theorem dX7_replace_39 : decode cX7_replace 39 = .ok (.iconst 1, 1) := by decide +kernel
theorem dX7_replace_40 : decode cX7_replace 40 = .ok (.iload_n 1, 1) := by decide +kernel
theorem dX7_replace_41 : decode cX7_replace 41 = .ok (.iadd, 1) := by decide +kernel
theorem dX7_replace_42 : decode cX7_replace 42 = .ok (.iload_n 2, 1) := by decide +kernel
theorem dX7_replace_43 : decode cX7_replace 43 = .ok (.iastore, 1) := by decide +kernel
theorem dX7_replace_44 : decode cX7_replace 44 = .ok (.iload_n 3, 1) := by decide +kernel
theorem dX7_replace_45 : decode cX7_replace 45 = .ok (.ireturn, 1) := by decide +kernel
theorem dX7_delete_0 : decode cX7_delete 0 = .ok (.aload_n 0, 1) := by decide +kernel
theorem dX7_delete_1 : decode cX7_delete 1 = .ok (.iload_n 1, 1) := by decide +kernel
theorem dX7_delete_2 : decode cX7_delete 2 = .ok (.invokevirtual 59, 3) := by decide +kernel
theorem dX7_delete_5 : decode cX7_delete 5 = .ok (.ifCond .eq 19, 3) := by decide +kernel
theorem dX7_delete_8 : decode cX7_delete 8 = .ok (.iload_n 2, 1) := by decide +kernel
theorem dX7_delete_9 : decode cX7_delete 9 = .ok (.iconst 1, 1) := by decide +kernel
theorem dX7_delete_10 : decode cX7_delete 10 = .ok (.aload_n 0, 1) := by decide +kernel
theorem dX7_delete_11 : decode cX7_delete 11 = .ok (.getfield 7, 3) := by decide +kernel
theorem dX7_delete_14 : decode cX7_delete 14 = .ok (.iconst 0, 1) := by decide +kernel
theorem dX7_delete_15 : decode cX7_delete 15 = .ok (.iaload, 1) := by decide +kernel
theorem dX7_delete_16 : decode cX7_delete 16 = .ok (.iload_n 1, 1) := by decide +kernel
theorem dX7_delete_17 : decode cX7_delete 17 = .ok (.isub, 1) := by decide +kernel
theorem dX7_delete_18 : decode cX7_delete 18 = .ok (.invokestatic 44, 3) := by decide +kernel
theorem dX7_delete_21 : decode cX7_delete 21 = .ok (.ifCond .ne 10, 3) := by decide +kernel
theorem dX7_delete_24 : decode cX7_delete 24 = .ok (.aload_n 0, 1) := by decide +kernel
theorem dX7_delete_25 : decode cX7_delete 25 = .ok (.bipush (-2), 2) := by decide +kernel
theorem dX7_delete_27 : decode cX7_delete 27 = .ok (.invokevirtual 52, 3) := by decide +kernel
theorem dX7_delete_30 : decode cX7_delete 30 = .ok (.ireturn, 1) := by decide +kernel
theorem dX7_delete_31 : decode cX7_delete 31 = .ok (.aload_n 0, 1) := by decide +kernel
theorem dX7_delete_32 : decode cX7_delete 32 = .ok (.invokevirtual 56, 3) := by decide +kernel
theorem dX7_delete_35 : decode cX7_delete 35 = .ok (.iload_n 1, 1) := by decide +kernel
theorem dX7_delete_36 : decode cX7_delete 36 = .ok (.istore_n 3, 1) := by decide +kernel
theorem dX7_delete_37 : decode cX7_delete 37 = .ok (.iload_n 3, 1) := by decide +kernel
theorem dX7_delete_38 : decode cX7_delete 38 = .ok (.iload_n 2, 1) := by decide +kernel
theorem dX7_delete_39 : decode cX7_delete 39 = .ok (.iadd, 1) := by decide +kernel
theorem dX7_delete_40 : decode cX7_delete 40 = .ok (.aload_n 0, 1) := by decide +kernel
theorem dX7_delete_41 : decode cX7_delete 41 = .ok (.getfield 7, 3) := by decide +kernel
theorem dX7_delete_44 : decode cX7_delete 44 = .ok (.iconst 0, 1) := by decide +kernel
theorem dX7_delete_45 : decode cX7_delete 45 = .ok (.iaload, 1) := by decide +kernel
theorem dX7_delete_46 : decode cX7_delete 46 = .ok (.if_icmp .ge 27, 3) := by decide +kernel
theorem dX7_delete_49 : decode cX7_delete 49 = .ok (.aload_n 0, 1) := by decide +kernel
theorem dX7_delete_50 : decode cX7_delete 50 = .ok (.getfield 7, 3) := by decide +kernel
theorem dX7_delete_53 : decode cX7_delete 53 = .ok (.iconst 1, 1) := by decide +kernel
theorem dX7_delete_54 : decode cX7_delete 54 = .ok (.iload_n 3, 1) := by decide +kernel
theorem dX7_delete_55 : decode cX7_delete 55 = .ok (.iadd, 1) := by decide +kernel
theorem dX7_delete_56 : decode cX7_delete 56 = .ok (.aload_n 0, 1) := by decide +kernel
theorem dX7_delete_57 : decode cX7_delete 57 = .ok (.getfield 7, 3) := by decide +kernel
theorem dX7_delete_60 : decode cX7_delete 60 = .ok (.iconst 1, 1) := by decide +kernel
theorem dX7_delete_61 : decode cX7_delete 61 = .ok (.iload_n 3, 1) := by decide +kernel
theorem dX7_delete_62 : decode cX7_delete 62 = .ok (.iadd, 1) := by decide +kernel
theorem dX7_delete_63 : decode cX7_delete 63 = .ok (.iload_n 2, 1) := by decide +kernel
theorem dX7_delete_64 : decode cX7_delete 64 = .ok (.iadd, 1) := by decide +kernel
theorem dX7_delete_65 : decode cX7_delete 65 = .ok (.iaload, 1) := by decide +kernel
theorem dX7_delete_66 : decode cX7_delete 66 = .ok (.iastore, 1) := by decide +kernel
theorem dX7_delete_67 : decode cX7_delete 67 = .ok (.iinc 3 1, 3) := by decide +kernel
theorem dX7_delete_70 : decode cX7_delete 70 = .ok (.goto (-33), 3) := by decide +kernel
theorem dX7_delete_73 : decode cX7_delete 73 = .ok (.aload_n 0, 1) := by decide +kernel
theorem dX7_delete_74 : decode cX7_delete 74 = .ok (.getfield 7, 3) := by decide +kernel
theorem dX7_delete_77 : decode cX7_delete 77 = .ok (.iconst 0, 1) := by decide +kernel
theorem dX7_delete_78 : decode cX7_delete 78 = .ok (.dup2, 1) := by decide +kernel
theorem dX7_delete_79 : decode cX7_delete 79 = .ok (.iaload, 1) := by decide +kernel
theorem dX7_delete_80 : decode cX7_delete 80 = .ok (.iload_n 2, 1) := by decide +kernel
theorem dX7_delete_81 : decode cX7_delete 81 = .ok (.isub, 1) := by decide +kernel
theorem dX7_delete_82 : decode cX7_delete 82 = .ok (.iastore, 1) := by decide +kernel
theorem dX7_delete_83 : decode cX7_delete 83 = .ok (.aload_n 0, 1) := by decide +kernel
theorem dX7_delete_84 : decode cX7_delete 84 = .ok (.getfield 7, 3) := by decide +kernel
theorem dX7_delete_87 : decode cX7_delete 87 = .ok (.iconst 0, 1) := by decide +kernel
theorem dX7_delete_88 : decode cX7_delete 88 = .ok (.iaload, 1) := by decide +kernel
theorem dX7_delete_89 : decode cX7_delete 89 = .ok (.ireturn, 1) := by decide +kernel
theorem dX7_length_0 : decode cX7_length 0 = .ok (.aload_n 0, 1) := by decide +kernel
theorem dX7_length_1 : decode cX7_length 1 = .ok (.getfield 7, 3) := by decide +kernel
theorem dX7_length_4 : decode cX7_length 4 = .ok (.iconst 0, 1) := by decide +kernel
theorem dX7_length_5 : decode cX7_length 5 = .ok (.iaload, 1) := by decide +kernel
theorem dX7_length_6 : decode cX7_length 6 = .ok (.ireturn, 1) := by decide +kernel
theorem dX7_byteAt_0 : decode cX7_byteAt 0 = .ok (.aload_n 0, 1) := by decide +kernel
theorem dX7_byteAt_1 : decode cX7_byteAt 1 = .ok (.iload_n 1, 1) := by decide +kernel
theorem dX7_byteAt_2 : decode cX7_byteAt 2 = .ok (.invokevirtual 59, 3) := by decide +kernel
theorem dX7_byteAt_5 : decode cX7_byteAt 5 = .ok (.ifCond .eq 14, 3) := by decide +kernel
theorem dX7_byteAt_8 : decode cX7_byteAt 8 = .ok (.aload_n 0, 1) := by decide +kernel
theorem dX7_byteAt_9 : decode cX7_byteAt 9 = .ok (.getfield 7, 3) := by decide +kernel
theorem dX7_byteAt_12 : decode cX7_byteAt 12 = .ok (.iconst 1, 1) := by decide +kernel
theorem dX7_byteAt_13 : decode cX7_byteAt 13 = .ok (.iload_n 1, 1) := by decide +kernel
theorem dX7_byteAt_14 : decode cX7_byteAt 14 = .ok (.iadd, 1) := by decide +kernel
theorem dX7_byteAt_15 : decode cX7_byteAt 15 = .ok (.iaload, 1) := by decide +kernel
theorem dX7_byteAt_16 : decode cX7_byteAt 16 = .ok (.goto 9, 3) := by decide +kernel
theorem dX7_byteAt_19 : decode cX7_byteAt 19 = .ok (.aload_n 0, 1) := by decide +kernel
theorem dX7_byteAt_20 : decode cX7_byteAt 20 = .ok (.bipush (-2), 2) := by decide +kernel
theorem dX7_byteAt_22 : decode cX7_byteAt 22 = .ok (.invokevirtual 52, 3) := by decide +kernel
theorem dX7_byteAt_25 : decode cX7_byteAt 25 = .ok (.ireturn, 1) := by decide +kernel
theorem dX7_isRule_0 : decode cX7_isRule 0 = .ok (.iload_n 0, 1) := by decide +kernel
theorem dX7_isRule_1 : decode cX7_isRule 1 = .ok (.iconst 0, 1) := by decide +kernel
theorem dX7_isRule_2 : decode cX7_isRule 2 = .ok (.iconst 5, 1) := by decide +kernel
theorem dX7_isRule_3 : decode cX7_isRule 3 = .ok (.invokestatic 44, 3) := by decide +kernel
theorem dX7_isRule_6 : decode cX7_isRule 6 = .ok (.ireturn, 1) := by decide +kernel
theorem dX7_append_0 : decode cX7_append 0 = .ok (.iload_n 1, 1) := by decide +kernel
theorem dX7_append_1 : decode cX7_append 1 = .ok (.invokestatic 48, 3) := by decide +kernel
theorem dX7_append_4 : decode cX7_append 4 = .ok (.ifCond .ne 10, 3) := by decide +kernel
theorem dX7_append_7 : decode cX7_append 7 = .ok (.aload_n 0, 1) := by decide +kernel
theorem dX7_append_8 : decode cX7_append 8 = .ok (.bipush (-2), 2) := by decide +kernel
theorem dX7_append_10 : decode cX7_append 10 = .ok (.invokevirtual 52, 3) := by decide +kernel
theorem dX7_append_13 : decode cX7_append 13 = .ok (.ireturn, 1) := by decide +kernel
theorem dX7_append_14 : decode cX7_append 14 = .ok (.aload_n 0, 1) := by decide +kernel
theorem dX7_append_15 : decode cX7_append 15 = .ok (.getfield 62, 3) := by decide +kernel
theorem dX7_append_18 : decode cX7_append 18 = .ok (.bipush 8, 2) := by decide +kernel
theorem dX7_append_20 : decode cX7_append 20 = .ok (.if_icmp .ne 10, 3) := by decide +kernel
theorem dX7_append_23 : decode cX7_append 23 = .ok (.aload_n 0, 1) := by decide +kernel
theorem dX7_append_24 : decode cX7_append 24 = .ok (.bipush (-4), 2) := by decide +kernel
theorem dX7_append_26 : decode cX7_append 26 = .ok (.invokevirtual 52, 3) := by decide +kernel
theorem dX7_append_29 : decode cX7_append 29 = .ok (.ireturn, 1) := by decide +kernel
theorem dX7_append_30 : decode cX7_append 30 = .ok (.aload_n 0, 1) := by decide +kernel
theorem dX7_append_31 : decode cX7_append 31 = .ok (.getfield 16, 3) := by decide +kernel
theorem dX7_append_34 : decode cX7_append 34 = .ok (.aload_n 0, 1) := by decide +kernel
theorem dX7_append_35 : decode cX7_append 35 = .ok (.getfield 62, 3) := by decide +kernel
theorem dX7_append_38 : decode cX7_append 38 = .ok (.iload_n 1, 1) := by decide +kernel
theorem dX7_append_39 : decode cX7_append 39 = .ok (.iastore, 1) := by decide +kernel
theorem dX7_append_40 : decode cX7_append 40 = .ok (.aload_n 0, 1) := by decide +kernel
theorem dX7_append_41 : decode cX7_append 41 = .ok (.dup, 1) := by decide +kernel
theorem dX7_append_42 : decode cX7_append 42 = .ok (.getfield 62, 3) := by decide +kernel
theorem dX7_append_45 : decode cX7_append 45 = .ok (.iconst 1, 1) := by decide +kernel
theorem dX7_append_46 : decode cX7_append 46 = .ok (.iadd, 1) := by decide +kernel
theorem dX7_append_47 : decode cX7_append 47 = .ok (.putfield 62, 3) := by decide +kernel
theorem dX7_append_50 : decode cX7_append 50 = .ok (.aload_n 0, 1) := by decide +kernel
theorem dX7_append_51 : decode cX7_append 51 = .ok (.getfield 62, 3) := by decide +kernel
theorem dX7_append_54 : decode cX7_append 54 = .ok (.ireturn, 1) := by decide +kernel
theorem dX7_clearPattern_0 : decode cX7_clearPattern 0 = .ok (.aload_n 0, 1) := by decide +kernel
theorem dX7_clearPattern_1 : decode cX7_clearPattern 1 = .ok (.getfield 62, 3) := by decide +kernel
theorem dX7_clearPattern_4 : decode cX7_clearPattern 4 = .ok (.istore_n 1, 1) := by decide +kernel
theorem dX7_clearPattern_5 : decode cX7_clearPattern 5 = .ok (.aload_n 0, 1) := by decide +kernel
theorem dX7_clearPattern_6 : decode cX7_clearPattern 6 = .ok (.iconst 0, 1) := by decide +kernel
theorem dX7_clearPattern_7 : decode cX7_clearPattern 7 = .ok (.putfield 62, 3) := by decide +kernel
theorem dX7_clearPattern_10 : decode cX7_clearPattern 10 = .ok (.iload_n 1, 1) := by decide +kernel
theorem dX7_clearPattern_11 : decode cX7_clearPattern 11 = .ok (.ireturn, 1) := by decide +kernel
theorem dX7_isReference_0 : decode cX7_isReference 0 = .ok (.iload_n 0, 1) := by decide +kernel
theorem dX7_isReference_1 : decode cX7_isReference 1 = .ok (.bipush 65, 2) := by decide +kernel
theorem dX7_isReference_3 : decode cX7_isReference 3 = .ok (.bipush 70, 2) := by decide +kernel
theorem dX7_isReference_5 : decode cX7_isReference 5 = .ok (.invokestatic 44, 3) := by decide +kernel
theorem dX7_isReference_8 : decode cX7_isReference 8 = .ok (.ireturn, 1) := by decide +kernel
theorem dX7_define_0 : decode cX7_define 0 = .ok (.iload_n 1, 1) := by decide +kernel
theorem dX7_define_1 : decode cX7_define 1 = .ok (.invokestatic 65, 3) := by decide +kernel
theorem dX7_define_4 : decode cX7_define 4 = .ok (.ifCond .ne 10, 3) := by decide +kernel
theorem dX7_define_7 : decode cX7_define 7 = .ok (.aload_n 0, 1) := by decide +kernel
theorem dX7_define_8 : decode cX7_define 8 = .ok (.bipush (-2), 2) := by decide +kernel
theorem dX7_define_10 : decode cX7_define 10 = .ok (.invokevirtual 52, 3) := by decide +kernel
theorem dX7_define_13 : decode cX7_define 13 = .ok (.ireturn, 1) := by decide +kernel
theorem dX7_define_14 : decode cX7_define 14 = .ok (.aload_n 0, 1) := by decide +kernel
theorem dX7_define_15 : decode cX7_define 15 = .ok (.getfield 62, 3) := by decide +kernel
theorem dX7_define_18 : decode cX7_define 18 = .ok (.ifCond .eq 26, 3) := by decide +kernel
theorem dX7_define_21 : decode cX7_define 21 = .ok (.aload_n 0, 1) := by decide +kernel
theorem dX7_define_22 : decode cX7_define 22 = .ok (.getfield 16, 3) := by decide +kernel
theorem dX7_define_25 : decode cX7_define 25 = .ok (.iconst 0, 1) := by decide +kernel
theorem dX7_define_26 : decode cX7_define 26 = .ok (.iaload, 1) := by decide +kernel
theorem dX7_define_27 : decode cX7_define 27 = .ok (.bipush 126, 2) := by decide +kernel
theorem dX7_define_29 : decode cX7_define 29 = .ok (.if_icmp .eq 15, 3) := by decide +kernel
theorem dX7_define_32 : decode cX7_define 32 = .ok (.aload_n 0, 1) := by decide +kernel
theorem dX7_define_33 : decode cX7_define 33 = .ok (.getfield 16, 3) := by decide +kernel
theorem dX7_define_36 : decode cX7_define 36 = .ok (.iconst 0, 1) := by decide +kernel
theorem dX7_define_37 : decode cX7_define 37 = .ok (.iaload, 1) := by decide +kernel
theorem dX7_define_38 : decode cX7_define 38 = .ok (.invokestatic 68, 3) := by decide +kernel
theorem dX7_define_41 : decode cX7_define 41 = .ok (.ifCond .eq 10, 3) := by decide +kernel
theorem dX7_define_44 : decode cX7_define 44 = .ok (.aload_n 0, 1) := by decide +kernel
theorem dX7_define_45 : decode cX7_define 45 = .ok (.bipush (-3), 2) := by decide +kernel
theorem dX7_define_47 : decode cX7_define 47 = .ok (.invokevirtual 52, 3) := by decide +kernel
theorem dX7_define_50 : decode cX7_define 50 = .ok (.ireturn, 1) := by decide +kernel
theorem dX7_define_51 : decode cX7_define 51 = .ok (.aload_n 0, 1) := by decide +kernel
theorem dX7_define_52 : decode cX7_define 52 = .ok (.invokevirtual 56, 3) := by decide +kernel
theorem dX7_define_55 : decode cX7_define 55 = .ok (.iconst 0, 1) := by decide +kernel
theorem dX7_define_56 : decode cX7_define 56 = .ok (.istore_n 2, 1) := by decide +kernel
theorem dX7_define_57 : decode cX7_define 57 = .ok (.iload_n 2, 1) := by decide +kernel
theorem dX7_define_58 : decode cX7_define 58 = .ok (.aload_n 0, 1) := by decide +kernel
theorem dX7_define_59 : decode cX7_define 59 = .ok (.getfield 62, 3) := by decide +kernel
theorem dX7_define_62 : decode cX7_define 62 = .ok (.if_icmp .ge 29, 3) := by decide +kernel
theorem dX7_define_65 : decode cX7_define 65 = .ok (.aload_n 0, 1) := by decide +kernel
theorem dX7_define_66 : decode cX7_define 66 = .ok (.getfield 7, 3) := by decide +kernel
theorem dX7_define_69 : decode cX7_define 69 = .ok (.bipush 107, 2) := by decide +kernel
theorem dX7_define_71 : decode cX7_define 71 = .ok (.bipush 8, 2) := by decide +kernel
theorem dX7_define_73 : decode cX7_define 73 = .ok (.iload_n 1, 1) := by decide +kernel
theorem dX7_define_74 : decode cX7_define 74 = .ok (.imul, 1) := by decide +kernel
theorem dX7_define_75 : decode cX7_define 75 = .ok (.iadd, 1) := by decide +kernel
theorem dX7_define_76 : decode cX7_define 76 = .ok (.iload_n 2, 1) := by decide +kernel
theorem dX7_define_77 : decode cX7_define 77 = .ok (.iadd, 1) := by decide +kernel
theorem dX7_define_78 : decode cX7_define 78 = .ok (.aload_n 0, 1) := by decide +kernel
theorem dX7_define_79 : decode cX7_define 79 = .ok (.getfield 16, 3) := by decide +kernel
theorem dX7_define_82 : decode cX7_define 82 = .ok (.iload_n 2, 1) := by decide +kernel
theorem dX7_define_83 : decode cX7_define 83 = .ok (.iaload, 1) := by decide +kernel
theorem dX7_define_84 : decode cX7_define 84 = .ok (.iastore, 1) := by decide +kernel
theorem dX7_define_85 : decode cX7_define 85 = .ok (.iinc 2 1, 3) := by decide +kernel
theorem dX7_define_88 : decode cX7_define 88 = .ok (.goto (-31), 3) := by decide +kernel
theorem dX7_define_91 : decode cX7_define 91 = .ok (.aload_n 0, 1) := by decide +kernel
theorem dX7_define_92 : decode cX7_define 92 = .ok (.getfield 7, 3) := by decide +kernel
theorem dX7_define_95 : decode cX7_define 95 = .ok (.bipush 101, 2) := by decide +kernel
theorem dX7_define_97 : decode cX7_define 97 = .ok (.iload_n 1, 1) := by decide +kernel
theorem dX7_define_98 : decode cX7_define 98 = .ok (.iadd, 1) := by decide +kernel
theorem dX7_define_99 : decode cX7_define 99 = .ok (.aload_n 0, 1) := by decide +kernel
theorem dX7_define_100 : decode cX7_define 100 = .ok (.getfield 62, 3) := by decide +kernel
theorem dX7_define_103 : decode cX7_define 103 = .ok (.iastore, 1) := by decide +kernel
theorem dX7_define_104 : decode cX7_define 104 = .ok (.aload_n 0, 1) := by decide +kernel
theorem dX7_define_105 : decode cX7_define 105 = .ok (.getfield 62, 3) := by decide +kernel
theorem dX7_define_108 : decode cX7_define 108 = .ok (.ireturn, 1) := by decide +kernel
theorem dX7_undefine_0 : decode cX7_undefine 0 = .ok (.iload_n 1, 1) := by decide +kernel
theorem dX7_undefine_1 : decode cX7_undefine 1 = .ok (.invokestatic 65, 3) := by decide +kernel
theorem dX7_undefine_4 : decode cX7_undefine 4 = .ok (.ifCond .ne 10, 3) := by decide +kernel
theorem dX7_undefine_7 : decode cX7_undefine 7 = .ok (.aload_n 0, 1) := by decide +kernel
theorem dX7_undefine_8 : decode cX7_undefine 8 = .ok (.bipush (-2), 2) := by decide +kernel
theorem dX7_undefine_10 : decode cX7_undefine 10 = .ok (.invokevirtual 52, 3) := by decide +kernel
theorem dX7_undefine_13 : decode cX7_undefine 13 = .ok (.ireturn, 1) := by decide +kernel
theorem dX7_undefine_14 : decode cX7_undefine 14 = .ok (.aload_n 0, 1) := by decide +kernel
theorem dX7_undefine_15 : decode cX7_undefine 15 = .ok (.invokevirtual 56, 3) := by decide +kernel
theorem dX7_undefine_18 : decode cX7_undefine 18 = .ok (.aload_n 0, 1) := by decide +kernel
theorem dX7_undefine_19 : decode cX7_undefine 19 = .ok (.getfield 7, 3) := by decide +kernel
theorem dX7_undefine_22 : decode cX7_undefine 22 = .ok (.bipush 101, 2) := by decide +kernel
theorem dX7_undefine_24 : decode cX7_undefine 24 = .ok (.iload_n 1, 1) := by decide +kernel
theorem dX7_undefine_25 : decode cX7_undefine 25 = .ok (.iadd, 1) := by decide +kernel
theorem dX7_undefine_26 : decode cX7_undefine 26 = .ok (.iaload, 1) := by decide +kernel
theorem dX7_undefine_27 : decode cX7_undefine 27 = .ok (.istore_n 2, 1) := by decide +kernel
theorem dX7_undefine_28 : decode cX7_undefine 28 = .ok (.aload_n 0, 1) := by decide +kernel
theorem dX7_undefine_29 : decode cX7_undefine 29 = .ok (.getfield 7, 3) := by decide +kernel
theorem dX7_undefine_32 : decode cX7_undefine 32 = .ok (.bipush 101, 2) := by decide +kernel
theorem dX7_undefine_34 : decode cX7_undefine 34 = .ok (.iload_n 1, 1) := by decide +kernel
theorem dX7_undefine_35 : decode cX7_undefine 35 = .ok (.iadd, 1) := by decide +kernel
theorem dX7_undefine_36 : decode cX7_undefine 36 = .ok (.iconst 0, 1) := by decide +kernel
theorem dX7_undefine_37 : decode cX7_undefine 37 = .ok (.iastore, 1) := by decide +kernel
theorem dX7_undefine_38 : decode cX7_undefine 38 = .ok (.iload_n 2, 1) := by decide +kernel
theorem dX7_undefine_39 : decode cX7_undefine 39 = .ok (.ireturn, 1) := by decide +kernel
theorem dX7_setStop_0 : decode cX7_setStop 0 = .ok (.iload_n 1, 1) := by decide +kernel
theorem dX7_setStop_1 : decode cX7_setStop 1 = .ok (.invokestatic 65, 3) := by decide +kernel
theorem dX7_setStop_4 : decode cX7_setStop 4 = .ok (.ifCond .eq 15, 3) := by decide +kernel
theorem dX7_setStop_7 : decode cX7_setStop 7 = .ok (.iload_n 2, 1) := by decide +kernel
theorem dX7_setStop_8 : decode cX7_setStop 8 = .ok (.iconst (-1), 1) := by decide +kernel
theorem dX7_setStop_9 : decode cX7_setStop 9 = .ok (.if_icmp .eq 17, 3) := by decide +kernel
theorem dX7_setStop_12 : decode cX7_setStop 12 = .ok (.iload_n 2, 1) := by decide +kernel
theorem dX7_setStop_13 : decode cX7_setStop 13 = .ok (.invokestatic 48, 3) := by decide +kernel
theorem dX7_setStop_16 : decode cX7_setStop 16 = .ok (.ifCond .ne 10, 3) := by decide +kernel
theorem dX7_setStop_19 : decode cX7_setStop 19 = .ok (.aload_n 0, 1) := by decide +kernel
theorem dX7_setStop_20 : decode cX7_setStop 20 = .ok (.bipush (-2), 2) := by decide +kernel
theorem dX7_setStop_22 : decode cX7_setStop 22 = .ok (.invokevirtual 52, 3) := by decide +kernel
theorem dX7_setStop_25 : decode cX7_setStop 25 = .ok (.ireturn, 1) := by decide +kernel
theorem dX7_setStop_26 : decode cX7_setStop 26 = .ok (.aload_n 0, 1) := by decide +kernel
theorem dX7_setStop_27 : decode cX7_setStop 27 = .ok (.invokevirtual 56, 3) := by decide +kernel
theorem dX7_setStop_30 : decode cX7_setStop 30 = .ok (.aload_n 0, 1) := by decide +kernel
theorem dX7_setStop_31 : decode cX7_setStop 31 = .ok (.getfield 7, 3) := by decide +kernel
theorem dX7_setStop_34 : decode cX7_setStop 34 = .ok (.sipush 155, 3) := by decide +kernel
theorem dX7_setStop_37 : decode cX7_setStop 37 = .ok (.iload_n 1, 1) := by decide +kernel
theorem dX7_setStop_38 : decode cX7_setStop 38 = .ok (.iadd, 1) := by decide +kernel
theorem dX7_setStop_39 : decode cX7_setStop 39 = .ok (.iaload, 1) := by decide +kernel
theorem dX7_setStop_40 : decode cX7_setStop 40 = .ok (.istore_n 3, 1) := by decide +kernel
theorem dX7_setStop_41 : decode cX7_setStop 41 = .ok (.aload_n 0, 1) := by decide +kernel
theorem dX7_setStop_42 : decode cX7_setStop 42 = .ok (.getfield 7, 3) := by decide +kernel
theorem dX7_setStop_45 : decode cX7_setStop 45 = .ok (.sipush 155, 3) := by decide +kernel
theorem dX7_setStop_48 : decode cX7_setStop 48 = .ok (.iload_n 1, 1) := by decide +kernel
theorem dX7_setStop_49 : decode cX7_setStop 49 = .ok (.iadd, 1) := by decide +kernel
theorem dX7_setStop_50 : decode cX7_setStop 50 = .ok (.iload_n 2, 1) := by decide +kernel
theorem dX7_setStop_51 : decode cX7_setStop 51 = .ok (.iastore, 1) := by decide +kernel
theorem dX7_setStop_52 : decode cX7_setStop 52 = .ok (.iload_n 3, 1) := by decide +kernel
theorem dX7_setStop_53 : decode cX7_setStop 53 = .ok (.ireturn, 1) := by decide +kernel
theorem dX7_elementOf_0 : decode cX7_elementOf 0 = .ok (.aload_n 0, 1) := by decide +kernel
theorem dX7_elementOf_1 : decode cX7_elementOf 1 = .ok (.getfield 7, 3) := by decide +kernel
theorem dX7_elementOf_4 : decode cX7_elementOf 4 = .ok (.bipush 107, 2) := by decide +kernel
theorem dX7_elementOf_6 : decode cX7_elementOf 6 = .ok (.bipush 8, 2) := by decide +kernel
theorem dX7_elementOf_8 : decode cX7_elementOf 8 = .ok (.iload_n 1, 1) := by decide +kernel
theorem dX7_elementOf_9 : decode cX7_elementOf 9 = .ok (.imul, 1) := by decide +kernel
theorem dX7_elementOf_10 : decode cX7_elementOf 10 = .ok (.iadd, 1) := by decide +kernel
theorem dX7_elementOf_11 : decode cX7_elementOf 11 = .ok (.iload_n 2, 1) := by decide +kernel
theorem dX7_elementOf_12 : decode cX7_elementOf 12 = .ok (.iadd, 1) := by decide +kernel
theorem dX7_elementOf_13 : decode cX7_elementOf 13 = .ok (.iaload, 1) := by decide +kernel
theorem dX7_elementOf_14 : decode cX7_elementOf 14 = .ok (.ireturn, 1) := by decide +kernel
theorem dX7_element_0 : decode cX7_element 0 = .ok (.iload_n 1, 1) := by decide +kernel
theorem dX7_element_1 : decode cX7_element 1 = .ok (.invokestatic 65, 3) := by decide +kernel
theorem dX7_element_4 : decode cX7_element 4 = .ok (.ifCond .eq 7, 3) := by decide +kernel
theorem dX7_element_7 : decode cX7_element 7 = .ok (.iload_n 2, 1) := by decide +kernel
theorem dX7_element_8 : decode cX7_element 8 = .ok (.ifCond .ge 10, 3) := by decide +kernel
theorem dX7_element_11 : decode cX7_element 11 = .ok (.aload_n 0, 1) := by decide +kernel
theorem dX7_element_12 : decode cX7_element 12 = .ok (.bipush (-2), 2) := by decide +kernel
theorem dX7_element_14 : decode cX7_element 14 = .ok (.invokevirtual 52, 3) := by decide +kernel
theorem dX7_element_17 : decode cX7_element 17 = .ok (.ireturn, 1) := by decide +kernel
theorem dX7_element_18 : decode cX7_element 18 = .ok (.iload_n 2, 1) := by decide +kernel
theorem dX7_element_19 : decode cX7_element 19 = .ok (.aload_n 0, 1) := by decide +kernel
theorem dX7_element_20 : decode cX7_element 20 = .ok (.getfield 7, 3) := by decide +kernel
theorem dX7_element_23 : decode cX7_element 23 = .ok (.bipush 101, 2) := by decide +kernel
theorem dX7_element_25 : decode cX7_element 25 = .ok (.iload_n 1, 1) := by decide +kernel
theorem dX7_element_26 : decode cX7_element 26 = .ok (.iadd, 1) := by decide +kernel
theorem dX7_element_27 : decode cX7_element 27 = .ok (.iaload, 1) := by decide +kernel
theorem dX7_element_28 : decode cX7_element 28 = .ok (.if_icmp .ge 12, 3) := by decide +kernel
theorem dX7_element_31 : decode cX7_element 31 = .ok (.aload_n 0, 1) := by decide +kernel
theorem dX7_element_32 : decode cX7_element 32 = .ok (.iload_n 1, 1) := by decide +kernel
theorem dX7_element_33 : decode cX7_element 33 = .ok (.iload_n 2, 1) := by decide +kernel
theorem dX7_element_34 : decode cX7_element 34 = .ok (.invokevirtual 71, 3) := by decide +kernel
theorem dX7_element_37 : decode cX7_element 37 = .ok (.goto 4, 3) := by decide +kernel
theorem dX7_element_40 : decode cX7_element 40 = .ok (.iconst (-1), 1) := by decide +kernel
theorem dX7_element_41 : decode cX7_element 41 = .ok (.ireturn, 1) := by decide +kernel
theorem dX7_cell_0 : decode cX7_cell 0 = .ok (.bipush 101, 2) := by decide +kernel
theorem dX7_cell_2 : decode cX7_cell 2 = .ok (.bipush 9, 2) := by decide +kernel
theorem dX7_cell_4 : decode cX7_cell 4 = .ok (.iload_n 0, 1) := by decide +kernel
theorem dX7_cell_5 : decode cX7_cell 5 = .ok (.imul, 1) := by decide +kernel
theorem dX7_cell_6 : decode cX7_cell 6 = .ok (.iload_n 1, 1) := by decide +kernel
theorem dX7_cell_7 : decode cX7_cell 7 = .ok (.iadd, 1) := by decide +kernel
theorem dX7_cell_8 : decode cX7_cell 8 = .ok (.imul, 1) := by decide +kernel
theorem dX7_cell_9 : decode cX7_cell 9 = .ok (.iload_n 2, 1) := by decide +kernel
theorem dX7_cell_10 : decode cX7_cell 10 = .ok (.iadd, 1) := by decide +kernel
theorem dX7_cell_11 : decode cX7_cell 11 = .ok (.ireturn, 1) := by decide +kernel
theorem dX7_isOf_0 : decode cX7_isOf 0 = .ok (.iload_n 1, 1) := by decide +kernel
theorem dX7_isOf_1 : decode cX7_isOf 1 = .ok (.aload_n 0, 1) := by decide +kernel
theorem dX7_isOf_2 : decode cX7_isOf 2 = .ok (.getfield 7, 3) := by decide +kernel
theorem dX7_isOf_5 : decode cX7_isOf 5 = .ok (.iconst 0, 1) := by decide +kernel
theorem dX7_isOf_6 : decode cX7_isOf 6 = .ok (.iaload, 1) := by decide +kernel
theorem dX7_isOf_7 : decode cX7_isOf 7 = .ok (.if_icmp .ge 23, 3) := by decide +kernel
theorem dX7_isOf_10 : decode cX7_isOf 10 = .ok (.aload_n 0, 1) := by decide +kernel
theorem dX7_isOf_11 : decode cX7_isOf 11 = .ok (.getfield 7, 3) := by decide +kernel
theorem dX7_isOf_14 : decode cX7_isOf 14 = .ok (.iconst 1, 1) := by decide +kernel
theorem dX7_isOf_15 : decode cX7_isOf 15 = .ok (.iload_n 1, 1) := by decide +kernel
theorem dX7_isOf_16 : decode cX7_isOf 16 = .ok (.iadd, 1) := by decide +kernel
theorem dX7_isOf_17 : decode cX7_isOf 17 = .ok (.iaload, 1) := by decide +kernel
theorem dX7_isOf_18 : decode cX7_isOf 18 = .ok (.iload_n 2, 1) := by decide +kernel
theorem dX7_isOf_19 : decode cX7_isOf 19 = .ok (.iload_n 3, 1) := by decide +kernel
theorem dX7_isOf_20 : decode cX7_isOf 20 = .ok (.invokestatic 44, 3) := by decide +kernel
theorem dX7_isOf_23 : decode cX7_isOf 23 = .ok (.ifCond .eq 7, 3) := by decide +kernel
theorem dX7_isOf_26 : decode cX7_isOf 26 = .ok (.iconst 1, 1) := by decide +kernel
theorem dX7_isOf_27 : decode cX7_isOf 27 = .ok (.goto 4, 3) := by decide +kernel
theorem dX7_isOf_30 : decode cX7_isOf 30 = .ok (.iconst 0, 1) := by decide +kernel
theorem dX7_isOf_31 : decode cX7_isOf 31 = .ok (.ireturn, 1) := by decide +kernel
theorem dX7_runEnd_0 : decode cX7_runEnd 0 = .ok (.iload_n 1, 1) := by decide +kernel
theorem dX7_runEnd_1 : decode cX7_runEnd 1 = .ok (.istore 4, 2) := by decide +kernel
theorem dX7_runEnd_3 : decode cX7_runEnd 3 = .ok (.aload_n 0, 1) := by decide +kernel
theorem dX7_runEnd_4 : decode cX7_runEnd 4 = .ok (.iload 4, 2) := by decide +kernel
theorem dX7_runEnd_6 : decode cX7_runEnd 6 = .ok (.iload_n 2, 1) := by decide +kernel
theorem dX7_runEnd_7 : decode cX7_runEnd 7 = .ok (.iload_n 3, 1) := by decide +kernel
theorem dX7_runEnd_8 : decode cX7_runEnd 8 = .ok (.invokevirtual 75, 3) := by decide +kernel
theorem dX7_runEnd_11 : decode cX7_runEnd 11 = .ok (.ifCond .eq 9, 3) := by decide +kernel
theorem dX7_runEnd_14 : decode cX7_runEnd 14 = .ok (.iinc 4 1, 3) := by decide +kernel
theorem dX7_runEnd_17 : decode cX7_runEnd 17 = .ok (.goto (-14), 3) := by decide +kernel
theorem dX7_runEnd_20 : decode cX7_runEnd 20 = .ok (.iload 4, 2) := by decide +kernel
theorem dX7_runEnd_22 : decode cX7_runEnd 22 = .ok (.ireturn, 1) := by decide +kernel
theorem dX7_elementEnd_0 : decode cX7_elementEnd 0 = .ok (.iload_n 1, 1) := by decide +kernel
theorem dX7_elementEnd_1 : decode cX7_elementEnd 1 = .ok (.invokestatic 68, 3) := by decide +kernel
theorem dX7_elementEnd_4 : decode cX7_elementEnd 4 = .ok (.ifCond .eq 18, 3) := by decide +kernel
theorem dX7_elementEnd_7 : decode cX7_elementEnd 7 = .ok (.aload_n 0, 1) := by decide +kernel
theorem dX7_elementEnd_8 : decode cX7_elementEnd 8 = .ok (.getfield 22, 3) := by decide +kernel
theorem dX7_elementEnd_11 : decode cX7_elementEnd 11 = .ok (.iload_n 1, 1) := by decide +kernel
theorem dX7_elementEnd_12 : decode cX7_elementEnd 12 = .ok (.bipush 65, 2) := by decide +kernel
theorem dX7_elementEnd_14 : decode cX7_elementEnd 14 = .ok (.isub, 1) := by decide +kernel
theorem dX7_elementEnd_15 : decode cX7_elementEnd 15 = .ok (.iconst 0, 1) := by decide +kernel
theorem dX7_elementEnd_16 : decode cX7_elementEnd 16 = .ok (.iload_n 2, 1) := by decide +kernel
theorem dX7_elementEnd_17 : decode cX7_elementEnd 17 = .ok (.invokestatic 78, 3) := by decide +kernel
theorem dX7_elementEnd_20 : decode cX7_elementEnd 20 = .ok (.iaload, 1) := by decide +kernel
theorem dX7_elementEnd_21 : decode cX7_elementEnd 21 = .ok (.ireturn, 1) := by decide +kernel
theorem dX7_elementEnd_22 : decode cX7_elementEnd 22 = .ok (.iload_n 1, 1) := by decide +kernel
theorem dX7_elementEnd_23 : decode cX7_elementEnd 23 = .ok (.bipush 35, 2) := by decide +kernel
theorem dX7_elementEnd_25 : decode cX7_elementEnd 25 = .ok (.if_icmp .eq 9, 3) := by decide +kernel
theorem dX7_elementEnd_28 : decode cX7_elementEnd 28 = .ok (.iload_n 1, 1) := by decide +kernel
theorem dX7_elementEnd_29 : decode cX7_elementEnd 29 = .ok (.bipush 64, 2) := by decide +kernel
theorem dX7_elementEnd_31 : decode cX7_elementEnd 31 = .ok (.if_icmp .ne 42, 3) := by decide +kernel
theorem dX7_elementEnd_34 : decode cX7_elementEnd 34 = .ok (.iload_n 1, 1) := by decide +kernel
theorem dX7_elementEnd_35 : decode cX7_elementEnd 35 = .ok (.bipush 35, 2) := by decide +kernel
theorem dX7_elementEnd_37 : decode cX7_elementEnd 37 = .ok (.if_icmp .ne 15, 3) := by decide +kernel
theorem dX7_elementEnd_40 : decode cX7_elementEnd 40 = .ok (.aload_n 0, 1) := by decide +kernel
theorem dX7_elementEnd_41 : decode cX7_elementEnd 41 = .ok (.iload_n 2, 1) := by decide +kernel
theorem dX7_elementEnd_42 : decode cX7_elementEnd 42 = .ok (.bipush 48, 2) := by decide +kernel
theorem dX7_elementEnd_44 : decode cX7_elementEnd 44 = .ok (.bipush 57, 2) := by decide +kernel
theorem dX7_elementEnd_46 : decode cX7_elementEnd 46 = .ok (.invokevirtual 82, 3) := by decide +kernel
theorem dX7_elementEnd_49 : decode cX7_elementEnd 49 = .ok (.goto 12, 3) := by decide +kernel
theorem dX7_elementEnd_52 : decode cX7_elementEnd 52 = .ok (.aload_n 0, 1) := by decide +kernel
theorem dX7_elementEnd_53 : decode cX7_elementEnd 53 = .ok (.iload_n 2, 1) := by decide +kernel
theorem dX7_elementEnd_54 : decode cX7_elementEnd 54 = .ok (.bipush 97, 2) := by decide +kernel
theorem dX7_elementEnd_56 : decode cX7_elementEnd 56 = .ok (.bipush 122, 2) := by decide +kernel
theorem dX7_elementEnd_58 : decode cX7_elementEnd 58 = .ok (.invokevirtual 82, 3) := by decide +kernel
theorem dX7_elementEnd_61 : decode cX7_elementEnd 61 = .ok (.istore_n 3, 1) := by decide +kernel
theorem dX7_elementEnd_62 : decode cX7_elementEnd 62 = .ok (.iload_n 3, 1) := by decide +kernel
theorem dX7_elementEnd_63 : decode cX7_elementEnd 63 = .ok (.iload_n 2, 1) := by decide +kernel
theorem dX7_elementEnd_64 : decode cX7_elementEnd 64 = .ok (.if_icmp .le 7, 3) := by decide +kernel
theorem dX7_elementEnd_67 : decode cX7_elementEnd 67 = .ok (.iload_n 3, 1) := by decide +kernel
theorem dX7_elementEnd_68 : decode cX7_elementEnd 68 = .ok (.goto 4, 3) := by decide +kernel
theorem dX7_elementEnd_71 : decode cX7_elementEnd 71 = .ok (.iconst (-1), 1) := by decide +kernel
theorem dX7_elementEnd_72 : decode cX7_elementEnd 72 = .ok (.ireturn, 1) := by decide +kernel
theorem dX7_elementEnd_73 : decode cX7_elementEnd 73 = .ok (.aload_n 0, 1) := by decide +kernel
theorem dX7_elementEnd_74 : decode cX7_elementEnd 74 = .ok (.iload_n 2, 1) := by decide +kernel
theorem dX7_elementEnd_75 : decode cX7_elementEnd 75 = .ok (.iload_n 1, 1) := by decide +kernel
theorem dX7_elementEnd_76 : decode cX7_elementEnd 76 = .ok (.iload_n 1, 1) := by decide +kernel
theorem dX7_elementEnd_77 : decode cX7_elementEnd 77 = .ok (.invokevirtual 75, 3) := by decide +kernel
theorem dX7_elementEnd_80 : decode cX7_elementEnd 80 = .ok (.ifCond .eq 9, 3) := by decide +kernel
theorem dX7_elementEnd_83 : decode cX7_elementEnd 83 = .ok (.iload_n 2, 1) := by decide +kernel
theorem dX7_elementEnd_84 : decode cX7_elementEnd 84 = .ok (.iconst 1, 1) := by decide +kernel
theorem dX7_elementEnd_85 : decode cX7_elementEnd 85 = .ok (.iadd, 1) := by decide +kernel
theorem dX7_elementEnd_86 : decode cX7_elementEnd 86 = .ok (.goto 4, 3) := by decide +kernel
theorem dX7_elementEnd_89 : decode cX7_elementEnd 89 = .ok (.iconst (-1), 1) := by decide +kernel
theorem dX7_elementEnd_90 : decode cX7_elementEnd 90 = .ok (.ireturn, 1) := by decide +kernel
theorem dX7_islandAt_0 : decode cX7_islandAt 0 = .ok (.iconst 0, 1) := by decide +kernel
theorem dX7_islandAt_1 : decode cX7_islandAt 1 = .ok (.istore_n 2, 1) := by decide +kernel
theorem dX7_islandAt_2 : decode cX7_islandAt 2 = .ok (.iload_n 2, 1) := by decide +kernel
theorem dX7_islandAt_3 : decode cX7_islandAt 3 = .ok (.bipush 6, 2) := by decide +kernel
theorem dX7_islandAt_5 : decode cX7_islandAt 5 = .ok (.if_icmp .ge 26, 3) := by decide +kernel
theorem dX7_islandAt_8 : decode cX7_islandAt 8 = .ok (.aload_n 0, 1) := by decide +kernel
theorem dX7_islandAt_9 : decode cX7_islandAt 9 = .ok (.getfield 22, 3) := by decide +kernel
theorem dX7_islandAt_12 : decode cX7_islandAt 12 = .ok (.iload_n 2, 1) := by decide +kernel
theorem dX7_islandAt_13 : decode cX7_islandAt 13 = .ok (.iconst 0, 1) := by decide +kernel
theorem dX7_islandAt_14 : decode cX7_islandAt 14 = .ok (.iload_n 1, 1) := by decide +kernel
theorem dX7_islandAt_15 : decode cX7_islandAt 15 = .ok (.invokestatic 78, 3) := by decide +kernel
theorem dX7_islandAt_18 : decode cX7_islandAt 18 = .ok (.iaload, 1) := by decide +kernel
theorem dX7_islandAt_19 : decode cX7_islandAt 19 = .ok (.iconst (-1), 1) := by decide +kernel
theorem dX7_islandAt_20 : decode cX7_islandAt 20 = .ok (.if_icmp .eq 5, 3) := by decide +kernel
theorem dX7_islandAt_23 : decode cX7_islandAt 23 = .ok (.iload_n 2, 1) := by decide +kernel
theorem dX7_islandAt_24 : decode cX7_islandAt 24 = .ok (.ireturn, 1) := by decide +kernel
theorem dX7_islandAt_25 : decode cX7_islandAt 25 = .ok (.iinc 2 1, 3) := by decide +kernel
theorem dX7_islandAt_28 : decode cX7_islandAt 28 = .ok (.goto (-26), 3) := by decide +kernel
theorem dX7_islandAt_31 : decode cX7_islandAt 31 = .ok (.iconst (-1), 1) := by decide +kernel
theorem dX7_islandAt_32 : decode cX7_islandAt 32 = .ok (.ireturn, 1) := by decide +kernel
theorem dX7_waterEnd_0 : decode cX7_waterEnd 0 = .ok (.aload_n 0, 1) := by decide +kernel
theorem dX7_waterEnd_1 : decode cX7_waterEnd 1 = .ok (.getfield 22, 3) := by decide +kernel
theorem dX7_waterEnd_4 : decode cX7_waterEnd 4 = .ok (.iload_n 1, 1) := by decide +kernel
theorem dX7_waterEnd_5 : decode cX7_waterEnd 5 = .ok (.iload_n 2, 1) := by decide +kernel
theorem dX7_waterEnd_6 : decode cX7_waterEnd 6 = .ok (.iconst 1, 1) := by decide +kernel
theorem dX7_waterEnd_7 : decode cX7_waterEnd 7 = .ok (.iadd, 1) := by decide +kernel
theorem dX7_waterEnd_8 : decode cX7_waterEnd 8 = .ok (.iload_n 3, 1) := by decide +kernel
theorem dX7_waterEnd_9 : decode cX7_waterEnd 9 = .ok (.invokestatic 78, 3) := by decide +kernel
theorem dX7_waterEnd_12 : decode cX7_waterEnd 12 = .ok (.iaload, 1) := by decide +kernel
theorem dX7_waterEnd_13 : decode cX7_waterEnd 13 = .ok (.istore 4, 2) := by decide +kernel
theorem dX7_waterEnd_15 : decode cX7_waterEnd 15 = .ok (.iload 4, 2) := by decide +kernel
theorem dX7_waterEnd_17 : decode cX7_waterEnd 17 = .ok (.iconst (-1), 1) := by decide +kernel
theorem dX7_waterEnd_18 : decode cX7_waterEnd 18 = .ok (.if_icmp .eq 6, 3) := by decide +kernel
theorem dX7_waterEnd_21 : decode cX7_waterEnd 21 = .ok (.iload 4, 2) := by decide +kernel
theorem dX7_waterEnd_23 : decode cX7_waterEnd 23 = .ok (.ireturn, 1) := by decide +kernel
theorem dX7_waterEnd_24 : decode cX7_waterEnd 24 = .ok (.aload_n 0, 1) := by decide +kernel
theorem dX7_waterEnd_25 : decode cX7_waterEnd 25 = .ok (.iload_n 3, 1) := by decide +kernel
theorem dX7_waterEnd_26 : decode cX7_waterEnd 26 = .ok (.invokevirtual 85, 3) := by decide +kernel
theorem dX7_waterEnd_29 : decode cX7_waterEnd 29 = .ok (.istore 5, 2) := by decide +kernel
theorem dX7_waterEnd_31 : decode cX7_waterEnd 31 = .ok (.iload 5, 2) := by decide +kernel
theorem dX7_waterEnd_33 : decode cX7_waterEnd 33 = .ok (.iconst (-1), 1) := by decide +kernel
theorem dX7_waterEnd_34 : decode cX7_waterEnd 34 = .ok (.if_icmp .eq 26, 3) := by decide +kernel
theorem dX7_waterEnd_37 : decode cX7_waterEnd 37 = .ok (.aload_n 0, 1) := by decide +kernel
theorem dX7_waterEnd_38 : decode cX7_waterEnd 38 = .ok (.getfield 22, 3) := by decide +kernel
theorem dX7_waterEnd_41 : decode cX7_waterEnd 41 = .ok (.iload_n 1, 1) := by decide +kernel
theorem dX7_waterEnd_42 : decode cX7_waterEnd 42 = .ok (.iload_n 2, 1) := by decide +kernel
theorem dX7_waterEnd_43 : decode cX7_waterEnd 43 = .ok (.aload_n 0, 1) := by decide +kernel
theorem dX7_waterEnd_44 : decode cX7_waterEnd 44 = .ok (.getfield 22, 3) := by decide +kernel
theorem dX7_waterEnd_47 : decode cX7_waterEnd 47 = .ok (.iload 5, 2) := by decide +kernel
theorem dX7_waterEnd_49 : decode cX7_waterEnd 49 = .ok (.iconst 0, 1) := by decide +kernel
theorem dX7_waterEnd_50 : decode cX7_waterEnd 50 = .ok (.iload_n 3, 1) := by decide +kernel
theorem dX7_waterEnd_51 : decode cX7_waterEnd 51 = .ok (.invokestatic 78, 3) := by decide +kernel
theorem dX7_waterEnd_54 : decode cX7_waterEnd 54 = .ok (.iaload, 1) := by decide +kernel
theorem dX7_waterEnd_55 : decode cX7_waterEnd 55 = .ok (.invokestatic 78, 3) := by decide +kernel
theorem dX7_waterEnd_58 : decode cX7_waterEnd 58 = .ok (.iaload, 1) := by decide +kernel
theorem dX7_waterEnd_59 : decode cX7_waterEnd 59 = .ok (.ireturn, 1) := by decide +kernel
theorem dX7_waterEnd_60 : decode cX7_waterEnd 60 = .ok (.iload_n 3, 1) := by decide +kernel
theorem dX7_waterEnd_61 : decode cX7_waterEnd 61 = .ok (.aload_n 0, 1) := by decide +kernel
theorem dX7_waterEnd_62 : decode cX7_waterEnd 62 = .ok (.getfield 7, 3) := by decide +kernel
theorem dX7_waterEnd_65 : decode cX7_waterEnd 65 = .ok (.iconst 0, 1) := by decide +kernel
theorem dX7_waterEnd_66 : decode cX7_waterEnd 66 = .ok (.iaload, 1) := by decide +kernel
theorem dX7_waterEnd_67 : decode cX7_waterEnd 67 = .ok (.if_icmp .eq 24, 3) := by decide +kernel
theorem dX7_waterEnd_70 : decode cX7_waterEnd 70 = .ok (.aload_n 0, 1) := by decide +kernel
theorem dX7_waterEnd_71 : decode cX7_waterEnd 71 = .ok (.getfield 7, 3) := by decide +kernel
theorem dX7_waterEnd_74 : decode cX7_waterEnd 74 = .ok (.iconst 1, 1) := by decide +kernel
theorem dX7_waterEnd_75 : decode cX7_waterEnd 75 = .ok (.iload_n 3, 1) := by decide +kernel
theorem dX7_waterEnd_76 : decode cX7_waterEnd 76 = .ok (.iadd, 1) := by decide +kernel
theorem dX7_waterEnd_77 : decode cX7_waterEnd 77 = .ok (.iaload, 1) := by decide +kernel
theorem dX7_waterEnd_78 : decode cX7_waterEnd 78 = .ok (.aload_n 0, 1) := by decide +kernel
theorem dX7_waterEnd_79 : decode cX7_waterEnd 79 = .ok (.getfield 7, 3) := by decide +kernel
theorem dX7_waterEnd_82 : decode cX7_waterEnd 82 = .ok (.sipush 155, 3) := by decide +kernel
theorem dX7_waterEnd_85 : decode cX7_waterEnd 85 = .ok (.iload_n 1, 1) := by decide +kernel
theorem dX7_waterEnd_86 : decode cX7_waterEnd 86 = .ok (.iadd, 1) := by decide +kernel
theorem dX7_waterEnd_87 : decode cX7_waterEnd 87 = .ok (.iaload, 1) := by decide +kernel
theorem dX7_waterEnd_88 : decode cX7_waterEnd 88 = .ok (.if_icmp .ne 7, 3) := by decide +kernel
theorem dX7_waterEnd_91 : decode cX7_waterEnd 91 = .ok (.iconst 1, 1) := by decide +kernel
theorem dX7_waterEnd_92 : decode cX7_waterEnd 92 = .ok (.goto 4, 3) := by decide +kernel
theorem dX7_waterEnd_95 : decode cX7_waterEnd 95 = .ok (.iconst 0, 1) := by decide +kernel
theorem dX7_waterEnd_96 : decode cX7_waterEnd 96 = .ok (.istore 6, 2) := by decide +kernel
theorem dX7_waterEnd_98 : decode cX7_waterEnd 98 = .ok (.iload 6, 2) := by decide +kernel
theorem dX7_waterEnd_100 : decode cX7_waterEnd 100 = .ok (.ifCond .eq 7, 3) := by decide +kernel
theorem dX7_waterEnd_103 : decode cX7_waterEnd 103 = .ok (.iconst (-1), 1) := by decide +kernel
theorem dX7_waterEnd_104 : decode cX7_waterEnd 104 = .ok (.goto 16, 3) := by decide +kernel
theorem dX7_waterEnd_107 : decode cX7_waterEnd 107 = .ok (.aload_n 0, 1) := by decide +kernel
theorem dX7_waterEnd_108 : decode cX7_waterEnd 108 = .ok (.getfield 22, 3) := by decide +kernel
theorem dX7_waterEnd_111 : decode cX7_waterEnd 111 = .ok (.iload_n 1, 1) := by decide +kernel
theorem dX7_waterEnd_112 : decode cX7_waterEnd 112 = .ok (.iload_n 2, 1) := by decide +kernel
theorem dX7_waterEnd_113 : decode cX7_waterEnd 113 = .ok (.iload_n 3, 1) := by decide +kernel
theorem dX7_waterEnd_114 : decode cX7_waterEnd 114 = .ok (.iconst 1, 1) := by decide +kernel
theorem dX7_waterEnd_115 : decode cX7_waterEnd 115 = .ok (.iadd, 1) := by decide +kernel
theorem dX7_waterEnd_116 : decode cX7_waterEnd 116 = .ok (.invokestatic 78, 3) := by decide +kernel
theorem dX7_waterEnd_119 : decode cX7_waterEnd 119 = .ok (.iaload, 1) := by decide +kernel
theorem dX7_waterEnd_120 : decode cX7_waterEnd 120 = .ok (.ireturn, 1) := by decide +kernel
theorem dX7_suffixEnd_0 : decode cX7_suffixEnd 0 = .ok (.iload_n 2, 1) := by decide +kernel
theorem dX7_suffixEnd_1 : decode cX7_suffixEnd 1 = .ok (.aload_n 0, 1) := by decide +kernel
theorem dX7_suffixEnd_2 : decode cX7_suffixEnd 2 = .ok (.getfield 7, 3) := by decide +kernel
theorem dX7_suffixEnd_5 : decode cX7_suffixEnd 5 = .ok (.bipush 101, 2) := by decide +kernel
theorem dX7_suffixEnd_7 : decode cX7_suffixEnd 7 = .ok (.iload_n 1, 1) := by decide +kernel
theorem dX7_suffixEnd_8 : decode cX7_suffixEnd 8 = .ok (.iadd, 1) := by decide +kernel
theorem dX7_suffixEnd_9 : decode cX7_suffixEnd 9 = .ok (.iaload, 1) := by decide +kernel
theorem dX7_suffixEnd_10 : decode cX7_suffixEnd 10 = .ok (.if_icmp .ne 13, 3) := by decide +kernel
theorem dX7_suffixEnd_13 : decode cX7_suffixEnd 13 = .ok (.iload_n 2, 1) := by decide +kernel
theorem dX7_suffixEnd_14 : decode cX7_suffixEnd 14 = .ok (.ifCond .ne 7, 3) := by decide +kernel
theorem dX7_suffixEnd_17 : decode cX7_suffixEnd 17 = .ok (.iconst (-1), 1) := by decide +kernel
theorem dX7_suffixEnd_18 : decode cX7_suffixEnd 18 = .ok (.goto 4, 3) := by decide +kernel
theorem dX7_suffixEnd_21 : decode cX7_suffixEnd 21 = .ok (.iload_n 3, 1) := by decide +kernel
theorem dX7_suffixEnd_22 : decode cX7_suffixEnd 22 = .ok (.ireturn, 1) := by decide +kernel
theorem dX7_suffixEnd_23 : decode cX7_suffixEnd 23 = .ok (.aload_n 0, 1) := by decide +kernel
theorem dX7_suffixEnd_24 : decode cX7_suffixEnd 24 = .ok (.iload_n 1, 1) := by decide +kernel
theorem dX7_suffixEnd_25 : decode cX7_suffixEnd 25 = .ok (.iload_n 2, 1) := by decide +kernel
theorem dX7_suffixEnd_26 : decode cX7_suffixEnd 26 = .ok (.invokevirtual 71, 3) := by decide +kernel
theorem dX7_suffixEnd_29 : decode cX7_suffixEnd 29 = .ok (.istore 4, 2) := by decide +kernel
theorem dX7_suffixEnd_31 : decode cX7_suffixEnd 31 = .ok (.iload 4, 2) := by decide +kernel
theorem dX7_suffixEnd_33 : decode cX7_suffixEnd 33 = .ok (.bipush 126, 2) := by decide +kernel
theorem dX7_suffixEnd_35 : decode cX7_suffixEnd 35 = .ok (.if_icmp .ne 11, 3) := by decide +kernel
theorem dX7_suffixEnd_38 : decode cX7_suffixEnd 38 = .ok (.aload_n 0, 1) := by decide +kernel
theorem dX7_suffixEnd_39 : decode cX7_suffixEnd 39 = .ok (.iload_n 1, 1) := by decide +kernel
theorem dX7_suffixEnd_40 : decode cX7_suffixEnd 40 = .ok (.iload_n 2, 1) := by decide +kernel
theorem dX7_suffixEnd_41 : decode cX7_suffixEnd 41 = .ok (.iload_n 3, 1) := by decide +kernel
theorem dX7_suffixEnd_42 : decode cX7_suffixEnd 42 = .ok (.invokevirtual 88, 3) := by decide +kernel
theorem dX7_suffixEnd_45 : decode cX7_suffixEnd 45 = .ok (.ireturn, 1) := by decide +kernel
theorem dX7_suffixEnd_46 : decode cX7_suffixEnd 46 = .ok (.aload_n 0, 1) := by decide +kernel
theorem dX7_suffixEnd_47 : decode cX7_suffixEnd 47 = .ok (.iload 4, 2) := by decide +kernel
theorem dX7_suffixEnd_49 : decode cX7_suffixEnd 49 = .ok (.iload_n 3, 1) := by decide +kernel
theorem dX7_suffixEnd_50 : decode cX7_suffixEnd 50 = .ok (.invokevirtual 91, 3) := by decide +kernel
theorem dX7_suffixEnd_53 : decode cX7_suffixEnd 53 = .ok (.istore 5, 2) := by decide +kernel
theorem dX7_suffixEnd_55 : decode cX7_suffixEnd 55 = .ok (.iload 5, 2) := by decide +kernel
theorem dX7_suffixEnd_57 : decode cX7_suffixEnd 57 = .ok (.iconst (-1), 1) := by decide +kernel
theorem dX7_suffixEnd_58 : decode cX7_suffixEnd 58 = .ok (.if_icmp .ne 7, 3) := by decide +kernel
theorem dX7_suffixEnd_61 : decode cX7_suffixEnd 61 = .ok (.iconst (-1), 1) := by decide +kernel
theorem dX7_suffixEnd_62 : decode cX7_suffixEnd 62 = .ok (.goto 17, 3) := by decide +kernel
theorem dX7_suffixEnd_65 : decode cX7_suffixEnd 65 = .ok (.aload_n 0, 1) := by decide +kernel
theorem dX7_suffixEnd_66 : decode cX7_suffixEnd 66 = .ok (.getfield 22, 3) := by decide +kernel
theorem dX7_suffixEnd_69 : decode cX7_suffixEnd 69 = .ok (.iload_n 1, 1) := by decide +kernel
theorem dX7_suffixEnd_70 : decode cX7_suffixEnd 70 = .ok (.iload_n 2, 1) := by decide +kernel
theorem dX7_suffixEnd_71 : decode cX7_suffixEnd 71 = .ok (.iconst 1, 1) := by decide +kernel
theorem dX7_suffixEnd_72 : decode cX7_suffixEnd 72 = .ok (.iadd, 1) := by decide +kernel
theorem dX7_suffixEnd_73 : decode cX7_suffixEnd 73 = .ok (.iload 5, 2) := by decide +kernel
theorem dX7_suffixEnd_75 : decode cX7_suffixEnd 75 = .ok (.invokestatic 78, 3) := by decide +kernel
theorem dX7_suffixEnd_78 : decode cX7_suffixEnd 78 = .ok (.iaload, 1) := by decide +kernel
theorem dX7_suffixEnd_79 : decode cX7_suffixEnd 79 = .ok (.ireturn, 1) := by decide +kernel
theorem dX7_findEnds_0 : decode cX7_findEnds 0 = .ok (.aload_n 0, 1) := by decide +kernel
theorem dX7_findEnds_1 : decode cX7_findEnds 1 = .ok (.getfield 7, 3) := by decide +kernel
theorem dX7_findEnds_4 : decode cX7_findEnds 4 = .ok (.iconst 0, 1) := by decide +kernel
theorem dX7_findEnds_5 : decode cX7_findEnds 5 = .ok (.iaload, 1) := by decide +kernel
theorem dX7_findEnds_6 : decode cX7_findEnds 6 = .ok (.istore_n 1, 1) := by decide +kernel
theorem dX7_findEnds_7 : decode cX7_findEnds 7 = .ok (.iload_n 1, 1) := by decide +kernel
theorem dX7_findEnds_8 : decode cX7_findEnds 8 = .ok (.ifCond .lt 93, 3) := by decide +kernel
theorem dX7_findEnds_11 : decode cX7_findEnds 11 = .ok (.iconst 0, 1) := by decide +kernel
theorem dX7_findEnds_12 : decode cX7_findEnds 12 = .ok (.istore_n 2, 1) := by decide +kernel
theorem dX7_findEnds_13 : decode cX7_findEnds 13 = .ok (.iload_n 2, 1) := by decide +kernel
theorem dX7_findEnds_14 : decode cX7_findEnds 14 = .ok (.bipush 6, 2) := by decide +kernel
theorem dX7_findEnds_16 : decode cX7_findEnds 16 = .ok (.if_icmp .ge 27, 3) := by decide +kernel
theorem dX7_findEnds_19 : decode cX7_findEnds 19 = .ok (.aload_n 0, 1) := by decide +kernel
theorem dX7_findEnds_20 : decode cX7_findEnds 20 = .ok (.getfield 22, 3) := by decide +kernel
theorem dX7_findEnds_23 : decode cX7_findEnds 23 = .ok (.iload_n 2, 1) := by decide +kernel
theorem dX7_findEnds_24 : decode cX7_findEnds 24 = .ok (.iconst 0, 1) := by decide +kernel
theorem dX7_findEnds_25 : decode cX7_findEnds 25 = .ok (.iload_n 1, 1) := by decide +kernel
theorem dX7_findEnds_26 : decode cX7_findEnds 26 = .ok (.invokestatic 78, 3) := by decide +kernel
theorem dX7_findEnds_29 : decode cX7_findEnds 29 = .ok (.aload_n 0, 1) := by decide +kernel
theorem dX7_findEnds_30 : decode cX7_findEnds 30 = .ok (.iload_n 2, 1) := by decide +kernel
theorem dX7_findEnds_31 : decode cX7_findEnds 31 = .ok (.iconst 0, 1) := by decide +kernel
theorem dX7_findEnds_32 : decode cX7_findEnds 32 = .ok (.iload_n 1, 1) := by decide +kernel
theorem dX7_findEnds_33 : decode cX7_findEnds 33 = .ok (.invokevirtual 94, 3) := by decide +kernel
theorem dX7_findEnds_36 : decode cX7_findEnds 36 = .ok (.iastore, 1) := by decide +kernel
theorem dX7_findEnds_37 : decode cX7_findEnds 37 = .ok (.iinc 2 1, 3) := by decide +kernel
theorem dX7_findEnds_40 : decode cX7_findEnds 40 = .ok (.goto (-27), 3) := by decide +kernel
theorem dX7_findEnds_43 : decode cX7_findEnds 43 = .ok (.iconst 0, 1) := by decide +kernel
theorem dX7_findEnds_44 : decode cX7_findEnds 44 = .ok (.istore_n 2, 1) := by decide +kernel
theorem dX7_findEnds_45 : decode cX7_findEnds 45 = .ok (.iload_n 2, 1) := by decide +kernel
theorem dX7_findEnds_46 : decode cX7_findEnds 46 = .ok (.bipush 6, 2) := by decide +kernel
theorem dX7_findEnds_48 : decode cX7_findEnds 48 = .ok (.if_icmp .ge 47, 3) := by decide +kernel
theorem dX7_findEnds_51 : decode cX7_findEnds 51 = .ok (.aload_n 0, 1) := by decide +kernel
theorem dX7_findEnds_52 : decode cX7_findEnds 52 = .ok (.getfield 7, 3) := by decide +kernel
theorem dX7_findEnds_55 : decode cX7_findEnds 55 = .ok (.bipush 101, 2) := by decide +kernel
theorem dX7_findEnds_57 : decode cX7_findEnds 57 = .ok (.iload_n 2, 1) := by decide +kernel
theorem dX7_findEnds_58 : decode cX7_findEnds 58 = .ok (.iadd, 1) := by decide +kernel
theorem dX7_findEnds_59 : decode cX7_findEnds 59 = .ok (.iaload, 1) := by decide +kernel
theorem dX7_findEnds_60 : decode cX7_findEnds 60 = .ok (.istore_n 3, 1) := by decide +kernel
theorem dX7_findEnds_61 : decode cX7_findEnds 61 = .ok (.iload_n 3, 1) := by decide +kernel
theorem dX7_findEnds_62 : decode cX7_findEnds 62 = .ok (.ifCond .le 27, 3) := by decide +kernel
theorem dX7_findEnds_65 : decode cX7_findEnds 65 = .ok (.aload_n 0, 1) := by decide +kernel
theorem dX7_findEnds_66 : decode cX7_findEnds 66 = .ok (.getfield 22, 3) := by decide +kernel
theorem dX7_findEnds_69 : decode cX7_findEnds 69 = .ok (.iload_n 2, 1) := by decide +kernel
theorem dX7_findEnds_70 : decode cX7_findEnds 70 = .ok (.iload_n 3, 1) := by decide +kernel
theorem dX7_findEnds_71 : decode cX7_findEnds 71 = .ok (.iload_n 1, 1) := by decide +kernel
theorem dX7_findEnds_72 : decode cX7_findEnds 72 = .ok (.invokestatic 78, 3) := by decide +kernel
theorem dX7_findEnds_75 : decode cX7_findEnds 75 = .ok (.aload_n 0, 1) := by decide +kernel
theorem dX7_findEnds_76 : decode cX7_findEnds 76 = .ok (.iload_n 2, 1) := by decide +kernel
theorem dX7_findEnds_77 : decode cX7_findEnds 77 = .ok (.iload_n 3, 1) := by decide +kernel
theorem dX7_findEnds_78 : decode cX7_findEnds 78 = .ok (.iload_n 1, 1) := by decide +kernel
theorem dX7_findEnds_79 : decode cX7_findEnds 79 = .ok (.invokevirtual 94, 3) := by decide +kernel
theorem dX7_findEnds_82 : decode cX7_findEnds 82 = .ok (.iastore, 1) := by decide +kernel
theorem dX7_findEnds_83 : decode cX7_findEnds 83 = .ok (.iinc 3 (-1), 3) := by decide +kernel
theorem dX7_findEnds_86 : decode cX7_findEnds 86 = .ok (.goto (-25), 3) := by decide +kernel
theorem dX7_findEnds_89 : decode cX7_findEnds 89 = .ok (.iinc 2 1, 3) := by decide +kernel
theorem dX7_findEnds_92 : decode cX7_findEnds 92 = .ok (.goto (-47), 3) := by decide +kernel
theorem dX7_findEnds_95 : decode cX7_findEnds 95 = .ok (.iinc 1 (-1), 3) := by decide +kernel
theorem dX7_findEnds_98 : decode cX7_findEnds 98 = .ok (.goto (-91), 3) := by decide +kernel
theorem dX7_findEnds_101 : decode cX7_findEnds 101 = .ok (.return_, 1) := by decide +kernel
theorem dX7_matchEnd_0 : decode cX7_matchEnd 0 = .ok (.iload_n 1, 1) := by decide +kernel
theorem dX7_matchEnd_1 : decode cX7_matchEnd 1 = .ok (.invokestatic 65, 3) := by decide +kernel
theorem dX7_matchEnd_4 : decode cX7_matchEnd 4 = .ok (.ifCond .eq 17, 3) := by decide +kernel
theorem dX7_matchEnd_7 : decode cX7_matchEnd 7 = .ok (.iload_n 2, 1) := by decide +kernel
theorem dX7_matchEnd_8 : decode cX7_matchEnd 8 = .ok (.iconst 0, 1) := by decide +kernel
theorem dX7_matchEnd_9 : decode cX7_matchEnd 9 = .ok (.aload_n 0, 1) := by decide +kernel
theorem dX7_matchEnd_10 : decode cX7_matchEnd 10 = .ok (.getfield 7, 3) := by decide +kernel
theorem dX7_matchEnd_13 : decode cX7_matchEnd 13 = .ok (.iconst 0, 1) := by decide +kernel
theorem dX7_matchEnd_14 : decode cX7_matchEnd 14 = .ok (.iaload, 1) := by decide +kernel
theorem dX7_matchEnd_15 : decode cX7_matchEnd 15 = .ok (.invokestatic 44, 3) := by decide +kernel
theorem dX7_matchEnd_18 : decode cX7_matchEnd 18 = .ok (.ifCond .ne 10, 3) := by decide +kernel
theorem dX7_matchEnd_21 : decode cX7_matchEnd 21 = .ok (.aload_n 0, 1) := by decide +kernel
theorem dX7_matchEnd_22 : decode cX7_matchEnd 22 = .ok (.bipush (-2), 2) := by decide +kernel
theorem dX7_matchEnd_24 : decode cX7_matchEnd 24 = .ok (.invokevirtual 52, 3) := by decide +kernel
theorem dX7_matchEnd_27 : decode cX7_matchEnd 27 = .ok (.ireturn, 1) := by decide +kernel
theorem dX7_matchEnd_28 : decode cX7_matchEnd 28 = .ok (.aload_n 0, 1) := by decide +kernel
theorem dX7_matchEnd_29 : decode cX7_matchEnd 29 = .ok (.invokevirtual 97, 3) := by decide +kernel
theorem dX7_matchEnd_32 : decode cX7_matchEnd 32 = .ok (.aload_n 0, 1) := by decide +kernel
theorem dX7_matchEnd_33 : decode cX7_matchEnd 33 = .ok (.getfield 22, 3) := by decide +kernel
theorem dX7_matchEnd_36 : decode cX7_matchEnd 36 = .ok (.iload_n 1, 1) := by decide +kernel
theorem dX7_matchEnd_37 : decode cX7_matchEnd 37 = .ok (.iconst 0, 1) := by decide +kernel
theorem dX7_matchEnd_38 : decode cX7_matchEnd 38 = .ok (.iload_n 2, 1) := by decide +kernel
theorem dX7_matchEnd_39 : decode cX7_matchEnd 39 = .ok (.invokestatic 78, 3) := by decide +kernel
theorem dX7_matchEnd_42 : decode cX7_matchEnd 42 = .ok (.iaload, 1) := by decide +kernel
theorem dX7_matchEnd_43 : decode cX7_matchEnd 43 = .ok (.ireturn, 1) := by decide +kernel
theorem dX7_addNode_0 : decode cX7_addNode 0 = .ok (.aload_n 0, 1) := by decide +kernel
theorem dX7_addNode_1 : decode cX7_addNode 1 = .ok (.getfield 25, 3) := by decide +kernel
theorem dX7_addNode_4 : decode cX7_addNode 4 = .ok (.aload_n 0, 1) := by decide +kernel
theorem dX7_addNode_5 : decode cX7_addNode 5 = .ok (.getfield 100, 3) := by decide +kernel
theorem dX7_addNode_8 : decode cX7_addNode 8 = .ok (.iload_n 1, 1) := by decide +kernel
theorem dX7_addNode_9 : decode cX7_addNode 9 = .ok (.iastore, 1) := by decide +kernel
theorem dX7_addNode_10 : decode cX7_addNode 10 = .ok (.aload_n 0, 1) := by decide +kernel
theorem dX7_addNode_11 : decode cX7_addNode 11 = .ok (.getfield 28, 3) := by decide +kernel
theorem dX7_addNode_14 : decode cX7_addNode 14 = .ok (.aload_n 0, 1) := by decide +kernel
theorem dX7_addNode_15 : decode cX7_addNode 15 = .ok (.getfield 100, 3) := by decide +kernel
theorem dX7_addNode_18 : decode cX7_addNode 18 = .ok (.iload_n 2, 1) := by decide +kernel
theorem dX7_addNode_19 : decode cX7_addNode 19 = .ok (.iastore, 1) := by decide +kernel
theorem dX7_addNode_20 : decode cX7_addNode 20 = .ok (.aload_n 0, 1) := by decide +kernel
theorem dX7_addNode_21 : decode cX7_addNode 21 = .ok (.getfield 31, 3) := by decide +kernel
theorem dX7_addNode_24 : decode cX7_addNode 24 = .ok (.aload_n 0, 1) := by decide +kernel
theorem dX7_addNode_25 : decode cX7_addNode 25 = .ok (.getfield 100, 3) := by decide +kernel
theorem dX7_addNode_28 : decode cX7_addNode 28 = .ok (.iload_n 3, 1) := by decide +kernel
theorem dX7_addNode_29 : decode cX7_addNode 29 = .ok (.iastore, 1) := by decide +kernel
theorem dX7_addNode_30 : decode cX7_addNode 30 = .ok (.aload_n 0, 1) := by decide +kernel
theorem dX7_addNode_31 : decode cX7_addNode 31 = .ok (.getfield 34, 3) := by decide +kernel
theorem dX7_addNode_34 : decode cX7_addNode 34 = .ok (.aload_n 0, 1) := by decide +kernel
theorem dX7_addNode_35 : decode cX7_addNode 35 = .ok (.getfield 100, 3) := by decide +kernel
theorem dX7_addNode_38 : decode cX7_addNode 38 = .ok (.iconst 0, 1) := by decide +kernel
theorem dX7_addNode_39 : decode cX7_addNode 39 = .ok (.iastore, 1) := by decide +kernel
theorem dX7_addNode_40 : decode cX7_addNode 40 = .ok (.aload_n 0, 1) := by decide +kernel
theorem dX7_addNode_41 : decode cX7_addNode 41 = .ok (.getfield 37, 3) := by decide +kernel
theorem dX7_addNode_44 : decode cX7_addNode 44 = .ok (.aload_n 0, 1) := by decide +kernel
theorem dX7_addNode_45 : decode cX7_addNode 45 = .ok (.getfield 100, 3) := by decide +kernel
theorem dX7_addNode_48 : decode cX7_addNode 48 = .ok (.iconst (-1), 1) := by decide +kernel
theorem dX7_addNode_49 : decode cX7_addNode 49 = .ok (.iastore, 1) := by decide +kernel
theorem dX7_addNode_50 : decode cX7_addNode 50 = .ok (.aload_n 0, 1) := by decide +kernel
theorem dX7_addNode_51 : decode cX7_addNode 51 = .ok (.dup, 1) := by decide +kernel
theorem dX7_addNode_52 : decode cX7_addNode 52 = .ok (.getfield 100, 3) := by decide +kernel
theorem dX7_addNode_55 : decode cX7_addNode 55 = .ok (.iconst 1, 1) := by decide +kernel
theorem dX7_addNode_56 : decode cX7_addNode 56 = .ok (.iadd, 1) := by decide +kernel
theorem dX7_addNode_57 : decode cX7_addNode 57 = .ok (.putfield 100, 3) := by decide +kernel
theorem dX7_addNode_60 : decode cX7_addNode 60 = .ok (.return_, 1) := by decide +kernel
theorem dX7_endOf_0 : decode cX7_endOf 0 = .ok (.aload_n 0, 1) := by decide +kernel
theorem dX7_endOf_1 : decode cX7_endOf 1 = .ok (.getfield 22, 3) := by decide +kernel
theorem dX7_endOf_4 : decode cX7_endOf 4 = .ok (.aload_n 0, 1) := by decide +kernel
theorem dX7_endOf_5 : decode cX7_endOf 5 = .ok (.getfield 25, 3) := by decide +kernel
theorem dX7_endOf_8 : decode cX7_endOf 8 = .ok (.iload_n 1, 1) := by decide +kernel
theorem dX7_endOf_9 : decode cX7_endOf 9 = .ok (.iaload, 1) := by decide +kernel
theorem dX7_endOf_10 : decode cX7_endOf 10 = .ok (.iconst 0, 1) := by decide +kernel
theorem dX7_endOf_11 : decode cX7_endOf 11 = .ok (.aload_n 0, 1) := by decide +kernel
theorem dX7_endOf_12 : decode cX7_endOf 12 = .ok (.getfield 28, 3) := by decide +kernel
theorem dX7_endOf_15 : decode cX7_endOf 15 = .ok (.iload_n 1, 1) := by decide +kernel
theorem dX7_endOf_16 : decode cX7_endOf 16 = .ok (.iaload, 1) := by decide +kernel
theorem dX7_endOf_17 : decode cX7_endOf 17 = .ok (.invokestatic 78, 3) := by decide +kernel
theorem dX7_endOf_20 : decode cX7_endOf 20 = .ok (.iaload, 1) := by decide +kernel
theorem dX7_endOf_21 : decode cX7_endOf 21 = .ok (.ireturn, 1) := by decide +kernel
theorem dX7_numberAt_0 : decode cX7_numberAt 0 = .ok (.iconst 0, 1) := by decide +kernel
theorem dX7_numberAt_1 : decode cX7_numberAt 1 = .ok (.istore_n 2, 1) := by decide +kernel
theorem dX7_numberAt_2 : decode cX7_numberAt 2 = .ok (.iload_n 1, 1) := by decide +kernel
theorem dX7_numberAt_3 : decode cX7_numberAt 3 = .ok (.istore_n 3, 1) := by decide +kernel
theorem dX7_numberAt_4 : decode cX7_numberAt 4 = .ok (.aload_n 0, 1) := by decide +kernel
theorem dX7_numberAt_5 : decode cX7_numberAt 5 = .ok (.iload_n 3, 1) := by decide +kernel
theorem dX7_numberAt_6 : decode cX7_numberAt 6 = .ok (.bipush 48, 2) := by decide +kernel
theorem dX7_numberAt_8 : decode cX7_numberAt 8 = .ok (.bipush 57, 2) := by decide +kernel
theorem dX7_numberAt_10 : decode cX7_numberAt 10 = .ok (.invokevirtual 75, 3) := by decide +kernel
theorem dX7_numberAt_13 : decode cX7_numberAt 13 = .ok (.ifCond .eq 29, 3) := by decide +kernel
theorem dX7_numberAt_16 : decode cX7_numberAt 16 = .ok (.bipush 10, 2) := by decide +kernel
theorem dX7_numberAt_18 : decode cX7_numberAt 18 = .ok (.iload_n 2, 1) := by decide +kernel
theorem dX7_numberAt_19 : decode cX7_numberAt 19 = .ok (.imul, 1) := by decide +kernel
theorem dX7_numberAt_20 : decode cX7_numberAt 20 = .ok (.aload_n 0, 1) := by decide +kernel
theorem dX7_numberAt_21 : decode cX7_numberAt 21 = .ok (.getfield 7, 3) := by decide +kernel
theorem dX7_numberAt_24 : decode cX7_numberAt 24 = .ok (.iconst 1, 1) := by decide +kernel
theorem dX7_numberAt_25 : decode cX7_numberAt 25 = .ok (.iload_n 3, 1) := by decide +kernel
theorem dX7_numberAt_26 : decode cX7_numberAt 26 = .ok (.iadd, 1) := by decide +kernel
theorem dX7_numberAt_27 : decode cX7_numberAt 27 = .ok (.iaload, 1) := by decide +kernel
theorem dX7_numberAt_28 : decode cX7_numberAt 28 = .ok (.iadd, 1) := by decide +kernel
theorem dX7_numberAt_29 : decode cX7_numberAt 29 = .ok (.bipush 48, 2) := by decide +kernel
theorem dX7_numberAt_31 : decode cX7_numberAt 31 = .ok (.isub, 1) := by decide +kernel
theorem dX7_numberAt_32 : decode cX7_numberAt 32 = .ok (.ldc 103, 2) := by decide +kernel
theorem dX7_numberAt_34 : decode cX7_numberAt 34 = .ok (.irem, 1) := by decide +kernel
theorem dX7_numberAt_35 : decode cX7_numberAt 35 = .ok (.istore_n 2, 1) := by decide +kernel
theorem dX7_numberAt_36 : decode cX7_numberAt 36 = .ok (.iinc 3 1, 3) := by decide +kernel
theorem dX7_numberAt_39 : decode cX7_numberAt 39 = .ok (.goto (-35), 3) := by decide +kernel
theorem dX7_numberAt_42 : decode cX7_numberAt 42 = .ok (.iload_n 2, 1) := by decide +kernel
theorem dX7_numberAt_43 : decode cX7_numberAt 43 = .ok (.ireturn, 1) := by decide +kernel
theorem dX7_followWater_0 : decode cX7_followWater 0 = .ok (.iload_n 3, 1) := by decide +kernel
theorem dX7_followWater_1 : decode cX7_followWater 1 = .ok (.istore 4, 2) := by decide +kernel
theorem dX7_followWater_3 : decode cX7_followWater 3 = .ok (.aload_n 0, 1) := by decide +kernel
theorem dX7_followWater_4 : decode cX7_followWater 4 = .ok (.getfield 22, 3) := by decide +kernel
theorem dX7_followWater_7 : decode cX7_followWater 7 = .ok (.aload_n 0, 1) := by decide +kernel
theorem dX7_followWater_8 : decode cX7_followWater 8 = .ok (.getfield 25, 3) := by decide +kernel
theorem dX7_followWater_11 : decode cX7_followWater 11 = .ok (.iload_n 1, 1) := by decide +kernel
theorem dX7_followWater_12 : decode cX7_followWater 12 = .ok (.iaload, 1) := by decide +kernel
theorem dX7_followWater_13 : decode cX7_followWater 13 = .ok (.iload_n 2, 1) := by decide +kernel
theorem dX7_followWater_14 : decode cX7_followWater 14 = .ok (.iconst 1, 1) := by decide +kernel
theorem dX7_followWater_15 : decode cX7_followWater 15 = .ok (.iadd, 1) := by decide +kernel
theorem dX7_followWater_16 : decode cX7_followWater 16 = .ok (.iload 4, 2) := by decide +kernel
theorem dX7_followWater_18 : decode cX7_followWater 18 = .ok (.invokestatic 78, 3) := by decide +kernel
theorem dX7_followWater_21 : decode cX7_followWater 21 = .ok (.iaload, 1) := by decide +kernel
theorem dX7_followWater_22 : decode cX7_followWater 22 = .ok (.iconst (-1), 1) := by decide +kernel
theorem dX7_followWater_23 : decode cX7_followWater 23 = .ok (.if_icmp .ne 60, 3) := by decide +kernel
theorem dX7_followWater_26 : decode cX7_followWater 26 = .ok (.aload_n 0, 1) := by decide +kernel
theorem dX7_followWater_27 : decode cX7_followWater 27 = .ok (.iload 4, 2) := by decide +kernel
theorem dX7_followWater_29 : decode cX7_followWater 29 = .ok (.invokevirtual 85, 3) := by decide +kernel
theorem dX7_followWater_32 : decode cX7_followWater 32 = .ok (.istore 5, 2) := by decide +kernel
theorem dX7_followWater_34 : decode cX7_followWater 34 = .ok (.iload 5, 2) := by decide +kernel
theorem dX7_followWater_36 : decode cX7_followWater 36 = .ok (.iconst (-1), 1) := by decide +kernel
theorem dX7_followWater_37 : decode cX7_followWater 37 = .ok (.if_icmp .eq 30, 3) := by decide +kernel
theorem dX7_followWater_40 : decode cX7_followWater 40 = .ok (.aload_n 0, 1) := by decide +kernel
theorem dX7_followWater_41 : decode cX7_followWater 41 = .ok (.iload 5, 2) := by decide +kernel
theorem dX7_followWater_43 : decode cX7_followWater 43 = .ok (.iload 4, 2) := by decide +kernel
theorem dX7_followWater_45 : decode cX7_followWater 45 = .ok (.iload_n 1, 1) := by decide +kernel
theorem dX7_followWater_46 : decode cX7_followWater 46 = .ok (.invokevirtual 104, 3) := by decide +kernel
theorem dX7_followWater_49 : decode cX7_followWater 49 = .ok (.aload_n 0, 1) := by decide +kernel
theorem dX7_followWater_50 : decode cX7_followWater 50 = .ok (.getfield 22, 3) := by decide +kernel
theorem dX7_followWater_53 : decode cX7_followWater 53 = .ok (.iload 5, 2) := by decide +kernel
theorem dX7_followWater_55 : decode cX7_followWater 55 = .ok (.iconst 0, 1) := by decide +kernel
theorem dX7_followWater_56 : decode cX7_followWater 56 = .ok (.iload 4, 2) := by decide +kernel
theorem dX7_followWater_58 : decode cX7_followWater 58 = .ok (.invokestatic 78, 3) := by decide +kernel
theorem dX7_followWater_61 : decode cX7_followWater 61 = .ok (.iaload, 1) := by decide +kernel
theorem dX7_followWater_62 : decode cX7_followWater 62 = .ok (.istore 4, 2) := by decide +kernel
theorem dX7_followWater_64 : decode cX7_followWater 64 = .ok (.goto 16, 3) := by decide +kernel
theorem dX7_followWater_67 : decode cX7_followWater 67 = .ok (.aload_n 0, 1) := by decide +kernel
theorem dX7_followWater_68 : decode cX7_followWater 68 = .ok (.getfield 34, 3) := by decide +kernel
theorem dX7_followWater_71 : decode cX7_followWater 71 = .ok (.iload_n 1, 1) := by decide +kernel
theorem dX7_followWater_72 : decode cX7_followWater 72 = .ok (.dup2, 1) := by decide +kernel
theorem dX7_followWater_73 : decode cX7_followWater 73 = .ok (.iaload, 1) := by decide +kernel
theorem dX7_followWater_74 : decode cX7_followWater 74 = .ok (.iconst 1, 1) := by decide +kernel
theorem dX7_followWater_75 : decode cX7_followWater 75 = .ok (.iadd, 1) := by decide +kernel
theorem dX7_followWater_76 : decode cX7_followWater 76 = .ok (.iastore, 1) := by decide +kernel
theorem dX7_followWater_77 : decode cX7_followWater 77 = .ok (.iinc 4 1, 3) := by decide +kernel
theorem dX7_followWater_80 : decode cX7_followWater 80 = .ok (.goto (-77), 3) := by decide +kernel
theorem dX7_followWater_83 : decode cX7_followWater 83 = .ok (.iload 4, 2) := by decide +kernel
theorem dX7_followWater_85 : decode cX7_followWater 85 = .ok (.ireturn, 1) := by decide +kernel
theorem dX7_follow_0 : decode cX7_follow 0 = .ok (.aload_n 0, 1) := by decide +kernel
theorem dX7_follow_1 : decode cX7_follow 1 = .ok (.getfield 25, 3) := by decide +kernel
theorem dX7_follow_4 : decode cX7_follow 4 = .ok (.iload_n 1, 1) := by decide +kernel
theorem dX7_follow_5 : decode cX7_follow 5 = .ok (.iaload, 1) := by decide +kernel
theorem dX7_follow_6 : decode cX7_follow 6 = .ok (.istore_n 2, 1) := by decide +kernel
theorem dX7_follow_7 : decode cX7_follow 7 = .ok (.aload_n 0, 1) := by decide +kernel
theorem dX7_follow_8 : decode cX7_follow 8 = .ok (.getfield 28, 3) := by decide +kernel
theorem dX7_follow_11 : decode cX7_follow 11 = .ok (.iload_n 1, 1) := by decide +kernel
theorem dX7_follow_12 : decode cX7_follow 12 = .ok (.iaload, 1) := by decide +kernel
theorem dX7_follow_13 : decode cX7_follow 13 = .ok (.istore_n 3, 1) := by decide +kernel
theorem dX7_follow_14 : decode cX7_follow 14 = .ok (.iconst 0, 1) := by decide +kernel
theorem dX7_follow_15 : decode cX7_follow 15 = .ok (.istore 4, 2) := by decide +kernel
theorem dX7_follow_17 : decode cX7_follow 17 = .ok (.iload 4, 2) := by decide +kernel
theorem dX7_follow_19 : decode cX7_follow 19 = .ok (.aload_n 0, 1) := by decide +kernel
theorem dX7_follow_20 : decode cX7_follow 20 = .ok (.getfield 7, 3) := by decide +kernel
theorem dX7_follow_23 : decode cX7_follow 23 = .ok (.bipush 101, 2) := by decide +kernel
theorem dX7_follow_25 : decode cX7_follow 25 = .ok (.iload_n 2, 1) := by decide +kernel
theorem dX7_follow_26 : decode cX7_follow 26 = .ok (.iadd, 1) := by decide +kernel
theorem dX7_follow_27 : decode cX7_follow 27 = .ok (.iaload, 1) := by decide +kernel
theorem dX7_follow_28 : decode cX7_follow 28 = .ok (.if_icmp .ge 92, 3) := by decide +kernel
theorem dX7_follow_31 : decode cX7_follow 31 = .ok (.aload_n 0, 1) := by decide +kernel
theorem dX7_follow_32 : decode cX7_follow 32 = .ok (.iload_n 2, 1) := by decide +kernel
theorem dX7_follow_33 : decode cX7_follow 33 = .ok (.iload 4, 2) := by decide +kernel
theorem dX7_follow_35 : decode cX7_follow 35 = .ok (.invokevirtual 71, 3) := by decide +kernel
theorem dX7_follow_38 : decode cX7_follow 38 = .ok (.istore 5, 2) := by decide +kernel
theorem dX7_follow_40 : decode cX7_follow 40 = .ok (.iload 5, 2) := by decide +kernel
theorem dX7_follow_42 : decode cX7_follow 42 = .ok (.bipush 126, 2) := by decide +kernel
theorem dX7_follow_44 : decode cX7_follow 44 = .ok (.if_icmp .ne 15, 3) := by decide +kernel
theorem dX7_follow_47 : decode cX7_follow 47 = .ok (.aload_n 0, 1) := by decide +kernel
theorem dX7_follow_48 : decode cX7_follow 48 = .ok (.iload_n 1, 1) := by decide +kernel
theorem dX7_follow_49 : decode cX7_follow 49 = .ok (.iload 4, 2) := by decide +kernel
theorem dX7_follow_51 : decode cX7_follow 51 = .ok (.iload_n 3, 1) := by decide +kernel
theorem dX7_follow_52 : decode cX7_follow 52 = .ok (.invokevirtual 108, 3) := by decide +kernel
theorem dX7_follow_55 : decode cX7_follow 55 = .ok (.istore_n 3, 1) := by decide +kernel
theorem dX7_follow_56 : decode cX7_follow 56 = .ok (.goto 58, 3) := by decide +kernel
theorem dX7_follow_59 : decode cX7_follow 59 = .ok (.iload 5, 2) := by decide +kernel
theorem dX7_follow_61 : decode cX7_follow 61 = .ok (.invokestatic 68, 3) := by decide +kernel
theorem dX7_follow_64 : decode cX7_follow 64 = .ok (.ifCond .eq 14, 3) := by decide +kernel
theorem dX7_follow_67 : decode cX7_follow 67 = .ok (.aload_n 0, 1) := by decide +kernel
theorem dX7_follow_68 : decode cX7_follow 68 = .ok (.iload 5, 2) := by decide +kernel
theorem dX7_follow_70 : decode cX7_follow 70 = .ok (.bipush 65, 2) := by decide +kernel
theorem dX7_follow_72 : decode cX7_follow 72 = .ok (.isub, 1) := by decide +kernel
theorem dX7_follow_73 : decode cX7_follow 73 = .ok (.iload_n 3, 1) := by decide +kernel
theorem dX7_follow_74 : decode cX7_follow 74 = .ok (.iload_n 1, 1) := by decide +kernel
theorem dX7_follow_75 : decode cX7_follow 75 = .ok (.invokevirtual 104, 3) := by decide +kernel
theorem dX7_follow_78 : decode cX7_follow 78 = .ok (.iload 5, 2) := by decide +kernel
theorem dX7_follow_80 : decode cX7_follow 80 = .ok (.bipush 35, 2) := by decide +kernel
theorem dX7_follow_82 : decode cX7_follow 82 = .ok (.if_icmp .ne 24, 3) := by decide +kernel
theorem dX7_follow_85 : decode cX7_follow 85 = .ok (.aload_n 0, 1) := by decide +kernel
theorem dX7_follow_86 : decode cX7_follow 86 = .ok (.getfield 37, 3) := by decide +kernel
theorem dX7_follow_89 : decode cX7_follow 89 = .ok (.iload_n 1, 1) := by decide +kernel
theorem dX7_follow_90 : decode cX7_follow 90 = .ok (.iaload, 1) := by decide +kernel
theorem dX7_follow_91 : decode cX7_follow 91 = .ok (.iconst (-1), 1) := by decide +kernel
theorem dX7_follow_92 : decode cX7_follow 92 = .ok (.if_icmp .ne 14, 3) := by decide +kernel
theorem dX7_follow_95 : decode cX7_follow 95 = .ok (.aload_n 0, 1) := by decide +kernel
theorem dX7_follow_96 : decode cX7_follow 96 = .ok (.getfield 37, 3) := by decide +kernel
theorem dX7_follow_99 : decode cX7_follow 99 = .ok (.iload_n 1, 1) := by decide +kernel
theorem dX7_follow_100 : decode cX7_follow 100 = .ok (.aload_n 0, 1) := by decide +kernel
theorem dX7_follow_101 : decode cX7_follow 101 = .ok (.iload_n 3, 1) := by decide +kernel
theorem dX7_follow_102 : decode cX7_follow 102 = .ok (.invokevirtual 111, 3) := by decide +kernel
theorem dX7_follow_105 : decode cX7_follow 105 = .ok (.iastore, 1) := by decide +kernel
theorem dX7_follow_106 : decode cX7_follow 106 = .ok (.aload_n 0, 1) := by decide +kernel
theorem dX7_follow_107 : decode cX7_follow 107 = .ok (.iload 5, 2) := by decide +kernel
theorem dX7_follow_109 : decode cX7_follow 109 = .ok (.iload_n 3, 1) := by decide +kernel
theorem dX7_follow_110 : decode cX7_follow 110 = .ok (.invokevirtual 91, 3) := by decide +kernel
theorem dX7_follow_113 : decode cX7_follow 113 = .ok (.istore_n 3, 1) := by decide +kernel
theorem dX7_follow_114 : decode cX7_follow 114 = .ok (.iinc 4 1, 3) := by decide +kernel
theorem dX7_follow_117 : decode cX7_follow 117 = .ok (.goto (-100), 3) := by decide +kernel
theorem dX7_follow_120 : decode cX7_follow 120 = .ok (.return_, 1) := by decide +kernel
theorem dX7_parse_0 : decode cX7_parse 0 = .ok (.aload_n 0, 1) := by decide +kernel
theorem dX7_parse_1 : decode cX7_parse 1 = .ok (.invokevirtual 97, 3) := by decide +kernel
theorem dX7_parse_4 : decode cX7_parse 4 = .ok (.aload_n 0, 1) := by decide +kernel
theorem dX7_parse_5 : decode cX7_parse 5 = .ok (.iconst 0, 1) := by decide +kernel
theorem dX7_parse_6 : decode cX7_parse 6 = .ok (.putfield 100, 3) := by decide +kernel
theorem dX7_parse_9 : decode cX7_parse 9 = .ok (.aload_n 0, 1) := by decide +kernel
theorem dX7_parse_10 : decode cX7_parse 10 = .ok (.iconst 0, 1) := by decide +kernel
theorem dX7_parse_11 : decode cX7_parse 11 = .ok (.putfield 114, 3) := by decide +kernel
theorem dX7_parse_14 : decode cX7_parse 14 = .ok (.aload_n 0, 1) := by decide +kernel
theorem dX7_parse_15 : decode cX7_parse 15 = .ok (.iconst 0, 1) := by decide +kernel
theorem dX7_parse_16 : decode cX7_parse 16 = .ok (.putfield 117, 3) := by decide +kernel
theorem dX7_parse_19 : decode cX7_parse 19 = .ok (.iconst 0, 1) := by decide +kernel
theorem dX7_parse_20 : decode cX7_parse 20 = .ok (.istore_n 1, 1) := by decide +kernel
theorem dX7_parse_21 : decode cX7_parse 21 = .ok (.iconst 0, 1) := by decide +kernel
theorem dX7_parse_22 : decode cX7_parse 22 = .ok (.istore_n 2, 1) := by decide +kernel
theorem dX7_parse_23 : decode cX7_parse 23 = .ok (.iload_n 2, 1) := by decide +kernel
theorem dX7_parse_24 : decode cX7_parse 24 = .ok (.aload_n 0, 1) := by decide +kernel
theorem dX7_parse_25 : decode cX7_parse 25 = .ok (.getfield 7, 3) := by decide +kernel
theorem dX7_parse_28 : decode cX7_parse 28 = .ok (.iconst 0, 1) := by decide +kernel
theorem dX7_parse_29 : decode cX7_parse 29 = .ok (.iaload, 1) := by decide +kernel
theorem dX7_parse_30 : decode cX7_parse 30 = .ok (.if_icmp .ge 77, 3) := by decide +kernel
theorem dX7_parse_33 : decode cX7_parse 33 = .ok (.aload_n 0, 1) := by decide +kernel
theorem dX7_parse_34 : decode cX7_parse 34 = .ok (.iload_n 2, 1) := by decide +kernel
theorem dX7_parse_35 : decode cX7_parse 35 = .ok (.invokevirtual 85, 3) := by decide +kernel
theorem dX7_parse_38 : decode cX7_parse 38 = .ok (.istore_n 3, 1) := by decide +kernel
theorem dX7_parse_39 : decode cX7_parse 39 = .ok (.iload_n 3, 1) := by decide +kernel
theorem dX7_parse_40 : decode cX7_parse 40 = .ok (.iconst (-1), 1) := by decide +kernel
theorem dX7_parse_41 : decode cX7_parse 41 = .ok (.if_icmp .eq 27, 3) := by decide +kernel
theorem dX7_parse_44 : decode cX7_parse 44 = .ok (.aload_n 0, 1) := by decide +kernel
theorem dX7_parse_45 : decode cX7_parse 45 = .ok (.iload_n 3, 1) := by decide +kernel
theorem dX7_parse_46 : decode cX7_parse 46 = .ok (.iload_n 2, 1) := by decide +kernel
theorem dX7_parse_47 : decode cX7_parse 47 = .ok (.iconst (-1), 1) := by decide +kernel
theorem dX7_parse_48 : decode cX7_parse 48 = .ok (.invokevirtual 104, 3) := by decide +kernel
theorem dX7_parse_51 : decode cX7_parse 51 = .ok (.aload_n 0, 1) := by decide +kernel
theorem dX7_parse_52 : decode cX7_parse 52 = .ok (.getfield 22, 3) := by decide +kernel
theorem dX7_parse_55 : decode cX7_parse 55 = .ok (.iload_n 3, 1) := by decide +kernel
theorem dX7_parse_56 : decode cX7_parse 56 = .ok (.iconst 0, 1) := by decide +kernel
theorem dX7_parse_57 : decode cX7_parse 57 = .ok (.iload_n 2, 1) := by decide +kernel
theorem dX7_parse_58 : decode cX7_parse 58 = .ok (.invokestatic 78, 3) := by decide +kernel
theorem dX7_parse_61 : decode cX7_parse 61 = .ok (.iaload, 1) := by decide +kernel
theorem dX7_parse_62 : decode cX7_parse 62 = .ok (.istore_n 2, 1) := by decide +kernel
theorem dX7_parse_63 : decode cX7_parse 63 = .ok (.iconst 0, 1) := by decide +kernel
theorem dX7_parse_64 : decode cX7_parse 64 = .ok (.istore_n 1, 1) := by decide +kernel
theorem dX7_parse_65 : decode cX7_parse 65 = .ok (.goto 39, 3) := by decide +kernel
theorem dX7_parse_68 : decode cX7_parse 68 = .ok (.aload_n 0, 1) := by decide +kernel
theorem dX7_parse_69 : decode cX7_parse 69 = .ok (.dup, 1) := by decide +kernel
theorem dX7_parse_70 : decode cX7_parse 70 = .ok (.getfield 114, 3) := by decide +kernel
theorem dX7_parse_73 : decode cX7_parse 73 = .ok (.iconst 1, 1) := by decide +kernel
theorem dX7_parse_74 : decode cX7_parse 74 = .ok (.iadd, 1) := by decide +kernel
theorem dX7_parse_75 : decode cX7_parse 75 = .ok (.putfield 114, 3) := by decide +kernel
theorem dX7_parse_78 : decode cX7_parse 78 = .ok (.iinc 1 1, 3) := by decide +kernel
theorem dX7_parse_81 : decode cX7_parse 81 = .ok (.aload_n 0, 1) := by decide +kernel
theorem dX7_parse_82 : decode cX7_parse 82 = .ok (.iload_n 1, 1) := by decide +kernel
theorem dX7_parse_83 : decode cX7_parse 83 = .ok (.aload_n 0, 1) := by decide +kernel
theorem dX7_parse_84 : decode cX7_parse 84 = .ok (.getfield 117, 3) := by decide +kernel
theorem dX7_parse_87 : decode cX7_parse 87 = .ok (.if_icmp .le 7, 3) := by decide +kernel
theorem dX7_parse_90 : decode cX7_parse 90 = .ok (.iload_n 1, 1) := by decide +kernel
theorem dX7_parse_91 : decode cX7_parse 91 = .ok (.goto 7, 3) := by decide +kernel
theorem dX7_parse_94 : decode cX7_parse 94 = .ok (.aload_n 0, 1) := by decide +kernel
theorem dX7_parse_95 : decode cX7_parse 95 = .ok (.getfield 117, 3) := by decide +kernel
theorem dX7_parse_98 : decode cX7_parse 98 = .ok (.putfield 117, 3) := by decide +kernel
theorem dX7_parse_101 : decode cX7_parse 101 = .ok (.iinc 2 1, 3) := by decide +kernel
theorem dX7_parse_104 : decode cX7_parse 104 = .ok (.goto (-81), 3) := by decide +kernel
theorem dX7_parse_107 : decode cX7_parse 107 = .ok (.aload_n 0, 1) := by decide +kernel
theorem dX7_parse_108 : decode cX7_parse 108 = .ok (.aload_n 0, 1) := by decide +kernel
theorem dX7_parse_109 : decode cX7_parse 109 = .ok (.getfield 100, 3) := by decide +kernel
theorem dX7_parse_112 : decode cX7_parse 112 = .ok (.putfield 120, 3) := by decide +kernel
theorem dX7_parse_115 : decode cX7_parse 115 = .ok (.iconst 0, 1) := by decide +kernel
theorem dX7_parse_116 : decode cX7_parse 116 = .ok (.istore_n 3, 1) := by decide +kernel
theorem dX7_parse_117 : decode cX7_parse 117 = .ok (.iload_n 3, 1) := by decide +kernel
theorem dX7_parse_118 : decode cX7_parse 118 = .ok (.aload_n 0, 1) := by decide +kernel
theorem dX7_parse_119 : decode cX7_parse 119 = .ok (.getfield 100, 3) := by decide +kernel
theorem dX7_parse_122 : decode cX7_parse 122 = .ok (.if_icmp .ge 14, 3) := by decide +kernel
theorem dX7_parse_125 : decode cX7_parse 125 = .ok (.aload_n 0, 1) := by decide +kernel
theorem dX7_parse_126 : decode cX7_parse 126 = .ok (.iload_n 3, 1) := by decide +kernel
theorem dX7_parse_127 : decode cX7_parse 127 = .ok (.invokevirtual 123, 3) := by decide +kernel
theorem dX7_parse_130 : decode cX7_parse 130 = .ok (.iinc 3 1, 3) := by decide +kernel
theorem dX7_parse_133 : decode cX7_parse 133 = .ok (.goto (-16), 3) := by decide +kernel
theorem dX7_parse_136 : decode cX7_parse 136 = .ok (.return_, 1) := by decide +kernel
theorem dX7_foundOf_0 : decode cX7_foundOf 0 = .ok (.iconst 0, 1) := by decide +kernel
theorem dX7_foundOf_1 : decode cX7_foundOf 1 = .ok (.istore_n 2, 1) := by decide +kernel
theorem dX7_foundOf_2 : decode cX7_foundOf 2 = .ok (.iload_n 2, 1) := by decide +kernel
theorem dX7_foundOf_3 : decode cX7_foundOf 3 = .ok (.aload_n 0, 1) := by decide +kernel
theorem dX7_foundOf_4 : decode cX7_foundOf 4 = .ok (.getfield 100, 3) := by decide +kernel
theorem dX7_foundOf_7 : decode cX7_foundOf 7 = .ok (.if_icmp .ge 20, 3) := by decide +kernel
theorem dX7_foundOf_10 : decode cX7_foundOf 10 = .ok (.aload_n 0, 1) := by decide +kernel
theorem dX7_foundOf_11 : decode cX7_foundOf 11 = .ok (.iload_n 2, 1) := by decide +kernel
theorem dX7_foundOf_12 : decode cX7_foundOf 12 = .ok (.invokevirtual 127, 3) := by decide +kernel
theorem dX7_foundOf_15 : decode cX7_foundOf 15 = .ok (.iload_n 1, 1) := by decide +kernel
theorem dX7_foundOf_16 : decode cX7_foundOf 16 = .ok (.if_icmp .ne 5, 3) := by decide +kernel
theorem dX7_foundOf_19 : decode cX7_foundOf 19 = .ok (.iload_n 2, 1) := by decide +kernel
theorem dX7_foundOf_20 : decode cX7_foundOf 20 = .ok (.ireturn, 1) := by decide +kernel
theorem dX7_foundOf_21 : decode cX7_foundOf 21 = .ok (.iinc 2 1, 3) := by decide +kernel
theorem dX7_foundOf_24 : decode cX7_foundOf 24 = .ok (.goto (-22), 3) := by decide +kernel
theorem dX7_foundOf_27 : decode cX7_foundOf 27 = .ok (.iconst (-1), 1) := by decide +kernel
theorem dX7_foundOf_28 : decode cX7_foundOf 28 = .ok (.ireturn, 1) := by decide +kernel
theorem dX7_numberOf_0 : decode cX7_numberOf 0 = .ok (.iconst 0, 1) := by decide +kernel
theorem dX7_numberOf_1 : decode cX7_numberOf 1 = .ok (.istore_n 2, 1) := by decide +kernel
theorem dX7_numberOf_2 : decode cX7_numberOf 2 = .ok (.iconst 0, 1) := by decide +kernel
theorem dX7_numberOf_3 : decode cX7_numberOf 3 = .ok (.istore_n 3, 1) := by decide +kernel
theorem dX7_numberOf_4 : decode cX7_numberOf 4 = .ok (.iload_n 3, 1) := by decide +kernel
theorem dX7_numberOf_5 : decode cX7_numberOf 5 = .ok (.aload_n 0, 1) := by decide +kernel
theorem dX7_numberOf_6 : decode cX7_numberOf 6 = .ok (.getfield 100, 3) := by decide +kernel
theorem dX7_numberOf_9 : decode cX7_numberOf 9 = .ok (.if_icmp .ge 32, 3) := by decide +kernel
theorem dX7_numberOf_12 : decode cX7_numberOf 12 = .ok (.iload_n 2, 1) := by decide +kernel
theorem dX7_numberOf_13 : decode cX7_numberOf 13 = .ok (.aload_n 0, 1) := by decide +kernel
theorem dX7_numberOf_14 : decode cX7_numberOf 14 = .ok (.getfield 28, 3) := by decide +kernel
theorem dX7_numberOf_17 : decode cX7_numberOf 17 = .ok (.iload_n 3, 1) := by decide +kernel
theorem dX7_numberOf_18 : decode cX7_numberOf 18 = .ok (.iaload, 1) := by decide +kernel
theorem dX7_numberOf_19 : decode cX7_numberOf 19 = .ok (.aload_n 0, 1) := by decide +kernel
theorem dX7_numberOf_20 : decode cX7_numberOf 20 = .ok (.getfield 28, 3) := by decide +kernel
theorem dX7_numberOf_23 : decode cX7_numberOf 23 = .ok (.iload_n 1, 1) := by decide +kernel
theorem dX7_numberOf_24 : decode cX7_numberOf 24 = .ok (.iaload, 1) := by decide +kernel
theorem dX7_numberOf_25 : decode cX7_numberOf 25 = .ok (.if_icmp .ge 7, 3) := by decide +kernel
theorem dX7_numberOf_28 : decode cX7_numberOf 28 = .ok (.iconst 1, 1) := by decide +kernel
theorem dX7_numberOf_29 : decode cX7_numberOf 29 = .ok (.goto 4, 3) := by decide +kernel
theorem dX7_numberOf_32 : decode cX7_numberOf 32 = .ok (.iconst 0, 1) := by decide +kernel
theorem dX7_numberOf_33 : decode cX7_numberOf 33 = .ok (.iadd, 1) := by decide +kernel
theorem dX7_numberOf_34 : decode cX7_numberOf 34 = .ok (.istore_n 2, 1) := by decide +kernel
theorem dX7_numberOf_35 : decode cX7_numberOf 35 = .ok (.iinc 3 1, 3) := by decide +kernel
theorem dX7_numberOf_38 : decode cX7_numberOf 38 = .ok (.goto (-34), 3) := by decide +kernel
theorem dX7_numberOf_41 : decode cX7_numberOf 41 = .ok (.iload_n 2, 1) := by decide +kernel
theorem dX7_numberOf_42 : decode cX7_numberOf 42 = .ok (.ireturn, 1) := by decide +kernel
theorem dX7_depthOf_0 : decode cX7_depthOf 0 = .ok (.iconst 0, 1) := by decide +kernel
theorem dX7_depthOf_1 : decode cX7_depthOf 1 = .ok (.istore_n 2, 1) := by decide +kernel
theorem dX7_depthOf_2 : decode cX7_depthOf 2 = .ok (.aload_n 0, 1) := by decide +kernel
theorem dX7_depthOf_3 : decode cX7_depthOf 3 = .ok (.getfield 31, 3) := by decide +kernel
theorem dX7_depthOf_6 : decode cX7_depthOf 6 = .ok (.iload_n 1, 1) := by decide +kernel
theorem dX7_depthOf_7 : decode cX7_depthOf 7 = .ok (.iaload, 1) := by decide +kernel
theorem dX7_depthOf_8 : decode cX7_depthOf 8 = .ok (.istore_n 3, 1) := by decide +kernel
theorem dX7_depthOf_9 : decode cX7_depthOf 9 = .ok (.iload_n 3, 1) := by decide +kernel
theorem dX7_depthOf_10 : decode cX7_depthOf 10 = .ok (.iconst (-1), 1) := by decide +kernel
theorem dX7_depthOf_11 : decode cX7_depthOf 11 = .ok (.if_icmp .eq 16, 3) := by decide +kernel
theorem dX7_depthOf_14 : decode cX7_depthOf 14 = .ok (.iinc 2 1, 3) := by decide +kernel
theorem dX7_depthOf_17 : decode cX7_depthOf 17 = .ok (.aload_n 0, 1) := by decide +kernel
theorem dX7_depthOf_18 : decode cX7_depthOf 18 = .ok (.getfield 31, 3) := by decide +kernel
theorem dX7_depthOf_21 : decode cX7_depthOf 21 = .ok (.iload_n 3, 1) := by decide +kernel
theorem dX7_depthOf_22 : decode cX7_depthOf 22 = .ok (.iaload, 1) := by decide +kernel
theorem dX7_depthOf_23 : decode cX7_depthOf 23 = .ok (.istore_n 3, 1) := by decide +kernel
theorem dX7_depthOf_24 : decode cX7_depthOf 24 = .ok (.goto (-15), 3) := by decide +kernel
theorem dX7_depthOf_27 : decode cX7_depthOf 27 = .ok (.iload_n 2, 1) := by decide +kernel
theorem dX7_depthOf_28 : decode cX7_depthOf 28 = .ok (.ireturn, 1) := by decide +kernel
theorem dX7_parentOf_0 : decode cX7_parentOf 0 = .ok (.aload_n 0, 1) := by decide +kernel
theorem dX7_parentOf_1 : decode cX7_parentOf 1 = .ok (.getfield 31, 3) := by decide +kernel
theorem dX7_parentOf_4 : decode cX7_parentOf 4 = .ok (.iload_n 1, 1) := by decide +kernel
theorem dX7_parentOf_5 : decode cX7_parentOf 5 = .ok (.iaload, 1) := by decide +kernel
theorem dX7_parentOf_6 : decode cX7_parentOf 6 = .ok (.iconst (-1), 1) := by decide +kernel
theorem dX7_parentOf_7 : decode cX7_parentOf 7 = .ok (.if_icmp .ne 7, 3) := by decide +kernel
theorem dX7_parentOf_10 : decode cX7_parentOf 10 = .ok (.iconst (-1), 1) := by decide +kernel
theorem dX7_parentOf_11 : decode cX7_parentOf 11 = .ok (.goto 13, 3) := by decide +kernel
theorem dX7_parentOf_14 : decode cX7_parentOf 14 = .ok (.aload_n 0, 1) := by decide +kernel
theorem dX7_parentOf_15 : decode cX7_parentOf 15 = .ok (.aload_n 0, 1) := by decide +kernel
theorem dX7_parentOf_16 : decode cX7_parentOf 16 = .ok (.getfield 31, 3) := by decide +kernel
theorem dX7_parentOf_19 : decode cX7_parentOf 19 = .ok (.iload_n 1, 1) := by decide +kernel
theorem dX7_parentOf_20 : decode cX7_parentOf 20 = .ok (.iaload, 1) := by decide +kernel
theorem dX7_parentOf_21 : decode cX7_parentOf 21 = .ok (.invokevirtual 127, 3) := by decide +kernel
theorem dX7_parentOf_24 : decode cX7_parentOf 24 = .ok (.ireturn, 1) := by decide +kernel
theorem dX7_askNode_0 : decode cX7_askNode 0 = .ok (.aload_n 0, 1) := by decide +kernel
theorem dX7_askNode_1 : decode cX7_askNode 1 = .ok (.invokevirtual 130, 3) := by decide +kernel
theorem dX7_askNode_4 : decode cX7_askNode 4 = .ok (.iload_n 1, 1) := by decide +kernel
theorem dX7_askNode_5 : decode cX7_askNode 5 = .ok (.iconst 0, 1) := by decide +kernel
theorem dX7_askNode_6 : decode cX7_askNode 6 = .ok (.aload_n 0, 1) := by decide +kernel
theorem dX7_askNode_7 : decode cX7_askNode 7 = .ok (.getfield 100, 3) := by decide +kernel
theorem dX7_askNode_10 : decode cX7_askNode 10 = .ok (.iconst 1, 1) := by decide +kernel
theorem dX7_askNode_11 : decode cX7_askNode 11 = .ok (.isub, 1) := by decide +kernel
theorem dX7_askNode_12 : decode cX7_askNode 12 = .ok (.invokestatic 44, 3) := by decide +kernel
theorem dX7_askNode_15 : decode cX7_askNode 15 = .ok (.ifCond .ne 10, 3) := by decide +kernel
theorem dX7_askNode_18 : decode cX7_askNode 18 = .ok (.aload_n 0, 1) := by decide +kernel
theorem dX7_askNode_19 : decode cX7_askNode 19 = .ok (.bipush (-2), 2) := by decide +kernel
theorem dX7_askNode_21 : decode cX7_askNode 21 = .ok (.invokevirtual 52, 3) := by decide +kernel
theorem dX7_askNode_24 : decode cX7_askNode 24 = .ok (.ireturn, 1) := by decide +kernel
theorem dX7_askNode_25 : decode cX7_askNode 25 = .ok (.aload_n 0, 1) := by decide +kernel
theorem dX7_askNode_26 : decode cX7_askNode 26 = .ok (.iload_n 1, 1) := by decide +kernel
theorem dX7_askNode_27 : decode cX7_askNode 27 = .ok (.invokevirtual 133, 3) := by decide +kernel
theorem dX7_askNode_30 : decode cX7_askNode 30 = .ok (.istore_n 3, 1) := by decide +kernel
theorem dX7_askNode_31 : decode cX7_askNode 31 = .ok (.iload_n 2, 1) := by decide +kernel
theorem dX7_askNode_32 : decode cX7_askNode 32 = .ok (.tableswitch 79 0 5 #[40, 47, 54, 60, 66, 72], 40) := by decide +kernel
theorem dX7_askNode_72 : decode cX7_askNode 72 = .ok (.aload_n 0, 1) := by decide +kernel
theorem dX7_askNode_73 : decode cX7_askNode 73 = .ok (.getfield 25, 3) := by decide +kernel
theorem dX7_askNode_76 : decode cX7_askNode 76 = .ok (.iload_n 3, 1) := by decide +kernel
theorem dX7_askNode_77 : decode cX7_askNode 77 = .ok (.iaload, 1) := by decide +kernel
theorem dX7_askNode_78 : decode cX7_askNode 78 = .ok (.ireturn, 1) := by decide +kernel
theorem dX7_askNode_79 : decode cX7_askNode 79 = .ok (.aload_n 0, 1) := by decide +kernel
theorem dX7_askNode_80 : decode cX7_askNode 80 = .ok (.getfield 28, 3) := by decide +kernel
theorem dX7_askNode_83 : decode cX7_askNode 83 = .ok (.iload_n 3, 1) := by decide +kernel
theorem dX7_askNode_84 : decode cX7_askNode 84 = .ok (.iaload, 1) := by decide +kernel
theorem dX7_askNode_85 : decode cX7_askNode 85 = .ok (.ireturn, 1) := by decide +kernel
theorem dX7_askNode_86 : decode cX7_askNode 86 = .ok (.aload_n 0, 1) := by decide +kernel
theorem dX7_askNode_87 : decode cX7_askNode 87 = .ok (.iload_n 3, 1) := by decide +kernel
theorem dX7_askNode_88 : decode cX7_askNode 88 = .ok (.invokevirtual 136, 3) := by decide +kernel
theorem dX7_askNode_91 : decode cX7_askNode 91 = .ok (.ireturn, 1) := by decide +kernel
theorem dX7_askNode_92 : decode cX7_askNode 92 = .ok (.aload_n 0, 1) := by decide +kernel
theorem dX7_askNode_93 : decode cX7_askNode 93 = .ok (.iload_n 3, 1) := by decide +kernel
theorem dX7_askNode_94 : decode cX7_askNode 94 = .ok (.invokevirtual 139, 3) := by decide +kernel
theorem dX7_askNode_97 : decode cX7_askNode 97 = .ok (.ireturn, 1) := by decide +kernel
theorem dX7_askNode_98 : decode cX7_askNode 98 = .ok (.aload_n 0, 1) := by decide +kernel
theorem dX7_askNode_99 : decode cX7_askNode 99 = .ok (.iload_n 3, 1) := by decide +kernel
theorem dX7_askNode_100 : decode cX7_askNode 100 = .ok (.invokevirtual 142, 3) := by decide +kernel
theorem dX7_askNode_103 : decode cX7_askNode 103 = .ok (.ireturn, 1) := by decide +kernel
theorem dX7_askNode_104 : decode cX7_askNode 104 = .ok (.aload_n 0, 1) := by decide +kernel
theorem dX7_askNode_105 : decode cX7_askNode 105 = .ok (.getfield 34, 3) := by decide +kernel
theorem dX7_askNode_108 : decode cX7_askNode 108 = .ok (.iload_n 3, 1) := by decide +kernel
theorem dX7_askNode_109 : decode cX7_askNode 109 = .ok (.iaload, 1) := by decide +kernel
theorem dX7_askNode_110 : decode cX7_askNode 110 = .ok (.ireturn, 1) := by decide +kernel
theorem dX7_askNode_111 : decode cX7_askNode 111 = .ok (.aload_n 0, 1) := by decide +kernel
theorem dX7_askNode_112 : decode cX7_askNode 112 = .ok (.getfield 37, 3) := by decide +kernel
theorem dX7_askNode_115 : decode cX7_askNode 115 = .ok (.iload_n 3, 1) := by decide +kernel
theorem dX7_askNode_116 : decode cX7_askNode 116 = .ok (.iaload, 1) := by decide +kernel
theorem dX7_askNode_117 : decode cX7_askNode 117 = .ok (.ireturn, 1) := by decide +kernel
theorem dX7_nodeCount_0 : decode cX7_nodeCount 0 = .ok (.aload_n 0, 1) := by decide +kernel
theorem dX7_nodeCount_1 : decode cX7_nodeCount 1 = .ok (.invokevirtual 130, 3) := by decide +kernel
theorem dX7_nodeCount_4 : decode cX7_nodeCount 4 = .ok (.aload_n 0, 1) := by decide +kernel
theorem dX7_nodeCount_5 : decode cX7_nodeCount 5 = .ok (.getfield 100, 3) := by decide +kernel
theorem dX7_nodeCount_8 : decode cX7_nodeCount 8 = .ok (.ireturn, 1) := by decide +kernel
theorem dX7_islandCount_0 : decode cX7_islandCount 0 = .ok (.aload_n 0, 1) := by decide +kernel
theorem dX7_islandCount_1 : decode cX7_islandCount 1 = .ok (.invokevirtual 130, 3) := by decide +kernel
theorem dX7_islandCount_4 : decode cX7_islandCount 4 = .ok (.aload_n 0, 1) := by decide +kernel
theorem dX7_islandCount_5 : decode cX7_islandCount 5 = .ok (.getfield 120, 3) := by decide +kernel
theorem dX7_islandCount_8 : decode cX7_islandCount 8 = .ok (.ireturn, 1) := by decide +kernel
theorem dX7_nodeRule_0 : decode cX7_nodeRule 0 = .ok (.aload_n 0, 1) := by decide +kernel
theorem dX7_nodeRule_1 : decode cX7_nodeRule 1 = .ok (.iload_n 1, 1) := by decide +kernel
theorem dX7_nodeRule_2 : decode cX7_nodeRule 2 = .ok (.iconst 0, 1) := by decide +kernel
theorem dX7_nodeRule_3 : decode cX7_nodeRule 3 = .ok (.invokevirtual 145, 3) := by decide +kernel
theorem dX7_nodeRule_6 : decode cX7_nodeRule 6 = .ok (.ireturn, 1) := by decide +kernel
theorem dX7_nodeStart_0 : decode cX7_nodeStart 0 = .ok (.aload_n 0, 1) := by decide +kernel
theorem dX7_nodeStart_1 : decode cX7_nodeStart 1 = .ok (.iload_n 1, 1) := by decide +kernel
theorem dX7_nodeStart_2 : decode cX7_nodeStart 2 = .ok (.iconst 1, 1) := by decide +kernel
theorem dX7_nodeStart_3 : decode cX7_nodeStart 3 = .ok (.invokevirtual 145, 3) := by decide +kernel
theorem dX7_nodeStart_6 : decode cX7_nodeStart 6 = .ok (.ireturn, 1) := by decide +kernel
theorem dX7_nodeEnd_0 : decode cX7_nodeEnd 0 = .ok (.aload_n 0, 1) := by decide +kernel
theorem dX7_nodeEnd_1 : decode cX7_nodeEnd 1 = .ok (.iload_n 1, 1) := by decide +kernel
theorem dX7_nodeEnd_2 : decode cX7_nodeEnd 2 = .ok (.iconst 2, 1) := by decide +kernel
theorem dX7_nodeEnd_3 : decode cX7_nodeEnd 3 = .ok (.invokevirtual 145, 3) := by decide +kernel
theorem dX7_nodeEnd_6 : decode cX7_nodeEnd 6 = .ok (.ireturn, 1) := by decide +kernel
theorem dX7_nodeParent_0 : decode cX7_nodeParent 0 = .ok (.aload_n 0, 1) := by decide +kernel
theorem dX7_nodeParent_1 : decode cX7_nodeParent 1 = .ok (.iload_n 1, 1) := by decide +kernel
theorem dX7_nodeParent_2 : decode cX7_nodeParent 2 = .ok (.iconst 3, 1) := by decide +kernel
theorem dX7_nodeParent_3 : decode cX7_nodeParent 3 = .ok (.invokevirtual 145, 3) := by decide +kernel
theorem dX7_nodeParent_6 : decode cX7_nodeParent 6 = .ok (.ireturn, 1) := by decide +kernel
theorem dX7_nodeDepth_0 : decode cX7_nodeDepth 0 = .ok (.aload_n 0, 1) := by decide +kernel
theorem dX7_nodeDepth_1 : decode cX7_nodeDepth 1 = .ok (.iload_n 1, 1) := by decide +kernel
theorem dX7_nodeDepth_2 : decode cX7_nodeDepth 2 = .ok (.iconst 4, 1) := by decide +kernel
theorem dX7_nodeDepth_3 : decode cX7_nodeDepth 3 = .ok (.invokevirtual 145, 3) := by decide +kernel
theorem dX7_nodeDepth_6 : decode cX7_nodeDepth 6 = .ok (.ireturn, 1) := by decide +kernel
theorem dX7_nodeWater_0 : decode cX7_nodeWater 0 = .ok (.aload_n 0, 1) := by decide +kernel
theorem dX7_nodeWater_1 : decode cX7_nodeWater 1 = .ok (.iload_n 1, 1) := by decide +kernel
theorem dX7_nodeWater_2 : decode cX7_nodeWater 2 = .ok (.iconst 5, 1) := by decide +kernel
theorem dX7_nodeWater_3 : decode cX7_nodeWater 3 = .ok (.invokevirtual 145, 3) := by decide +kernel
theorem dX7_nodeWater_6 : decode cX7_nodeWater 6 = .ok (.ireturn, 1) := by decide +kernel
theorem dX7_nodeNumber_0 : decode cX7_nodeNumber 0 = .ok (.aload_n 0, 1) := by decide +kernel
theorem dX7_nodeNumber_1 : decode cX7_nodeNumber 1 = .ok (.iload_n 1, 1) := by decide +kernel
theorem dX7_nodeNumber_2 : decode cX7_nodeNumber 2 = .ok (.bipush 6, 2) := by decide +kernel
theorem dX7_nodeNumber_4 : decode cX7_nodeNumber 4 = .ok (.invokevirtual 145, 3) := by decide +kernel
theorem dX7_nodeNumber_7 : decode cX7_nodeNumber 7 = .ok (.ireturn, 1) := by decide +kernel
theorem dX7_nodeAt_0 : decode cX7_nodeAt 0 = .ok (.aload_n 0, 1) := by decide +kernel
theorem dX7_nodeAt_1 : decode cX7_nodeAt 1 = .ok (.iload_n 1, 1) := by decide +kernel
theorem dX7_nodeAt_2 : decode cX7_nodeAt 2 = .ok (.invokevirtual 59, 3) := by decide +kernel
theorem dX7_nodeAt_5 : decode cX7_nodeAt 5 = .ok (.ifCond .ne 10, 3) := by decide +kernel
theorem dX7_nodeAt_8 : decode cX7_nodeAt 8 = .ok (.aload_n 0, 1) := by decide +kernel
theorem dX7_nodeAt_9 : decode cX7_nodeAt 9 = .ok (.bipush (-2), 2) := by decide +kernel
theorem dX7_nodeAt_11 : decode cX7_nodeAt 11 = .ok (.invokevirtual 52, 3) := by decide +kernel
theorem dX7_nodeAt_14 : decode cX7_nodeAt 14 = .ok (.ireturn, 1) := by decide +kernel
theorem dX7_nodeAt_15 : decode cX7_nodeAt 15 = .ok (.aload_n 0, 1) := by decide +kernel
theorem dX7_nodeAt_16 : decode cX7_nodeAt 16 = .ok (.invokevirtual 130, 3) := by decide +kernel
theorem dX7_nodeAt_19 : decode cX7_nodeAt 19 = .ok (.iconst (-1), 1) := by decide +kernel
theorem dX7_nodeAt_20 : decode cX7_nodeAt 20 = .ok (.istore_n 2, 1) := by decide +kernel
theorem dX7_nodeAt_21 : decode cX7_nodeAt 21 = .ok (.iconst 0, 1) := by decide +kernel
theorem dX7_nodeAt_22 : decode cX7_nodeAt 22 = .ok (.istore_n 3, 1) := by decide +kernel
theorem dX7_nodeAt_23 : decode cX7_nodeAt 23 = .ok (.iload_n 3, 1) := by decide +kernel
theorem dX7_nodeAt_24 : decode cX7_nodeAt 24 = .ok (.aload_n 0, 1) := by decide +kernel
theorem dX7_nodeAt_25 : decode cX7_nodeAt 25 = .ok (.getfield 100, 3) := by decide +kernel
theorem dX7_nodeAt_28 : decode cX7_nodeAt 28 = .ok (.if_icmp .ge 64, 3) := by decide +kernel
theorem dX7_nodeAt_31 : decode cX7_nodeAt 31 = .ok (.aload_n 0, 1) := by decide +kernel
theorem dX7_nodeAt_32 : decode cX7_nodeAt 32 = .ok (.getfield 28, 3) := by decide +kernel
theorem dX7_nodeAt_35 : decode cX7_nodeAt 35 = .ok (.iload_n 3, 1) := by decide +kernel
theorem dX7_nodeAt_36 : decode cX7_nodeAt 36 = .ok (.iaload, 1) := by decide +kernel
theorem dX7_nodeAt_37 : decode cX7_nodeAt 37 = .ok (.iload_n 1, 1) := by decide +kernel
theorem dX7_nodeAt_38 : decode cX7_nodeAt 38 = .ok (.if_icmp .gt 16, 3) := by decide +kernel
theorem dX7_nodeAt_41 : decode cX7_nodeAt 41 = .ok (.iload_n 1, 1) := by decide +kernel
theorem dX7_nodeAt_42 : decode cX7_nodeAt 42 = .ok (.aload_n 0, 1) := by decide +kernel
theorem dX7_nodeAt_43 : decode cX7_nodeAt 43 = .ok (.iload_n 3, 1) := by decide +kernel
theorem dX7_nodeAt_44 : decode cX7_nodeAt 44 = .ok (.invokevirtual 136, 3) := by decide +kernel
theorem dX7_nodeAt_47 : decode cX7_nodeAt 47 = .ok (.if_icmp .ge 7, 3) := by decide +kernel
theorem dX7_nodeAt_50 : decode cX7_nodeAt 50 = .ok (.iconst 1, 1) := by decide +kernel
theorem dX7_nodeAt_51 : decode cX7_nodeAt 51 = .ok (.goto 4, 3) := by decide +kernel
theorem dX7_nodeAt_54 : decode cX7_nodeAt 54 = .ok (.iconst 0, 1) := by decide +kernel
theorem dX7_nodeAt_55 : decode cX7_nodeAt 55 = .ok (.istore 4, 2) := by decide +kernel
theorem dX7_nodeAt_57 : decode cX7_nodeAt 57 = .ok (.iload 4, 2) := by decide +kernel
theorem dX7_nodeAt_59 : decode cX7_nodeAt 59 = .ok (.ifCond .eq 25, 3) := by decide +kernel
theorem dX7_nodeAt_62 : decode cX7_nodeAt 62 = .ok (.iload_n 2, 1) := by decide +kernel
theorem dX7_nodeAt_63 : decode cX7_nodeAt 63 = .ok (.iconst (-1), 1) := by decide +kernel
theorem dX7_nodeAt_64 : decode cX7_nodeAt 64 = .ok (.if_icmp .eq 16, 3) := by decide +kernel
theorem dX7_nodeAt_67 : decode cX7_nodeAt 67 = .ok (.aload_n 0, 1) := by decide +kernel
theorem dX7_nodeAt_68 : decode cX7_nodeAt 68 = .ok (.iload_n 3, 1) := by decide +kernel
theorem dX7_nodeAt_69 : decode cX7_nodeAt 69 = .ok (.invokevirtual 142, 3) := by decide +kernel
theorem dX7_nodeAt_72 : decode cX7_nodeAt 72 = .ok (.aload_n 0, 1) := by decide +kernel
theorem dX7_nodeAt_73 : decode cX7_nodeAt 73 = .ok (.iload_n 2, 1) := by decide +kernel
theorem dX7_nodeAt_74 : decode cX7_nodeAt 74 = .ok (.invokevirtual 142, 3) := by decide +kernel
theorem dX7_nodeAt_77 : decode cX7_nodeAt 77 = .ok (.if_icmp .le 7, 3) := by decide +kernel
theorem dX7_nodeAt_80 : decode cX7_nodeAt 80 = .ok (.iload_n 3, 1) := by decide +kernel
theorem dX7_nodeAt_81 : decode cX7_nodeAt 81 = .ok (.goto 4, 3) := by decide +kernel
theorem dX7_nodeAt_84 : decode cX7_nodeAt 84 = .ok (.iload_n 2, 1) := by decide +kernel
theorem dX7_nodeAt_85 : decode cX7_nodeAt 85 = .ok (.istore_n 2, 1) := by decide +kernel
theorem dX7_nodeAt_86 : decode cX7_nodeAt 86 = .ok (.iinc 3 1, 3) := by decide +kernel
theorem dX7_nodeAt_89 : decode cX7_nodeAt 89 = .ok (.goto (-66), 3) := by decide +kernel
theorem dX7_nodeAt_92 : decode cX7_nodeAt 92 = .ok (.iload_n 2, 1) := by decide +kernel
theorem dX7_nodeAt_93 : decode cX7_nodeAt 93 = .ok (.iconst (-1), 1) := by decide +kernel
theorem dX7_nodeAt_94 : decode cX7_nodeAt 94 = .ok (.if_icmp .ne 7, 3) := by decide +kernel
theorem dX7_nodeAt_97 : decode cX7_nodeAt 97 = .ok (.iconst (-1), 1) := by decide +kernel
theorem dX7_nodeAt_98 : decode cX7_nodeAt 98 = .ok (.goto 8, 3) := by decide +kernel
theorem dX7_nodeAt_101 : decode cX7_nodeAt 101 = .ok (.aload_n 0, 1) := by decide +kernel
theorem dX7_nodeAt_102 : decode cX7_nodeAt 102 = .ok (.iload_n 2, 1) := by decide +kernel
theorem dX7_nodeAt_103 : decode cX7_nodeAt 103 = .ok (.invokevirtual 127, 3) := by decide +kernel
theorem dX7_nodeAt_106 : decode cX7_nodeAt 106 = .ok (.ireturn, 1) := by decide +kernel
theorem dX7_waterLength_0 : decode cX7_waterLength 0 = .ok (.aload_n 0, 1) := by decide +kernel
theorem dX7_waterLength_1 : decode cX7_waterLength 1 = .ok (.invokevirtual 130, 3) := by decide +kernel
theorem dX7_waterLength_4 : decode cX7_waterLength 4 = .ok (.aload_n 0, 1) := by decide +kernel
theorem dX7_waterLength_5 : decode cX7_waterLength 5 = .ok (.getfield 114, 3) := by decide +kernel
theorem dX7_waterLength_8 : decode cX7_waterLength 8 = .ok (.ireturn, 1) := by decide +kernel
theorem dX7_longestWater_0 : decode cX7_longestWater 0 = .ok (.aload_n 0, 1) := by decide +kernel
theorem dX7_longestWater_1 : decode cX7_longestWater 1 = .ok (.invokevirtual 130, 3) := by decide +kernel
theorem dX7_longestWater_4 : decode cX7_longestWater 4 = .ok (.aload_n 0, 1) := by decide +kernel
theorem dX7_longestWater_5 : decode cX7_longestWater 5 = .ok (.getfield 117, 3) := by decide +kernel
theorem dX7_longestWater_8 : decode cX7_longestWater 8 = .ok (.ireturn, 1) := by decide +kernel
theorem dX7_countOf_0 : decode cX7_countOf 0 = .ok (.iload_n 1, 1) := by decide +kernel
theorem dX7_countOf_1 : decode cX7_countOf 1 = .ok (.invokestatic 65, 3) := by decide +kernel
theorem dX7_countOf_4 : decode cX7_countOf 4 = .ok (.ifCond .ne 10, 3) := by decide +kernel
theorem dX7_countOf_7 : decode cX7_countOf 7 = .ok (.aload_n 0, 1) := by decide +kernel
theorem dX7_countOf_8 : decode cX7_countOf 8 = .ok (.bipush (-2), 2) := by decide +kernel
theorem dX7_countOf_10 : decode cX7_countOf 10 = .ok (.invokevirtual 52, 3) := by decide +kernel
theorem dX7_countOf_13 : decode cX7_countOf 13 = .ok (.ireturn, 1) := by decide +kernel
theorem dX7_countOf_14 : decode cX7_countOf 14 = .ok (.aload_n 0, 1) := by decide +kernel
theorem dX7_countOf_15 : decode cX7_countOf 15 = .ok (.invokevirtual 130, 3) := by decide +kernel
theorem dX7_countOf_18 : decode cX7_countOf 18 = .ok (.iconst 0, 1) := by decide +kernel
theorem dX7_countOf_19 : decode cX7_countOf 19 = .ok (.istore_n 2, 1) := by decide +kernel
theorem dX7_countOf_20 : decode cX7_countOf 20 = .ok (.iconst 0, 1) := by decide +kernel
theorem dX7_countOf_21 : decode cX7_countOf 21 = .ok (.istore_n 3, 1) := by decide +kernel
theorem dX7_countOf_22 : decode cX7_countOf 22 = .ok (.iload_n 3, 1) := by decide +kernel
theorem dX7_countOf_23 : decode cX7_countOf 23 = .ok (.aload_n 0, 1) := by decide +kernel
theorem dX7_countOf_24 : decode cX7_countOf 24 = .ok (.getfield 100, 3) := by decide +kernel
theorem dX7_countOf_27 : decode cX7_countOf 27 = .ok (.if_icmp .ge 27, 3) := by decide +kernel
theorem dX7_countOf_30 : decode cX7_countOf 30 = .ok (.iload_n 2, 1) := by decide +kernel
theorem dX7_countOf_31 : decode cX7_countOf 31 = .ok (.aload_n 0, 1) := by decide +kernel
theorem dX7_countOf_32 : decode cX7_countOf 32 = .ok (.getfield 25, 3) := by decide +kernel
theorem dX7_countOf_35 : decode cX7_countOf 35 = .ok (.iload_n 3, 1) := by decide +kernel
theorem dX7_countOf_36 : decode cX7_countOf 36 = .ok (.iaload, 1) := by decide +kernel
theorem dX7_countOf_37 : decode cX7_countOf 37 = .ok (.iload_n 1, 1) := by decide +kernel
theorem dX7_countOf_38 : decode cX7_countOf 38 = .ok (.if_icmp .ne 7, 3) := by decide +kernel
theorem dX7_countOf_41 : decode cX7_countOf 41 = .ok (.iconst 1, 1) := by decide +kernel
theorem dX7_countOf_42 : decode cX7_countOf 42 = .ok (.goto 4, 3) := by decide +kernel
theorem dX7_countOf_45 : decode cX7_countOf 45 = .ok (.iconst 0, 1) := by decide +kernel
theorem dX7_countOf_46 : decode cX7_countOf 46 = .ok (.iadd, 1) := by decide +kernel
theorem dX7_countOf_47 : decode cX7_countOf 47 = .ok (.istore_n 2, 1) := by decide +kernel
theorem dX7_countOf_48 : decode cX7_countOf 48 = .ok (.iinc 3 1, 3) := by decide +kernel
theorem dX7_countOf_51 : decode cX7_countOf 51 = .ok (.goto (-29), 3) := by decide +kernel
theorem dX7_countOf_54 : decode cX7_countOf 54 = .ok (.iload_n 2, 1) := by decide +kernel
theorem dX7_countOf_55 : decode cX7_countOf 55 = .ok (.ireturn, 1) := by decide +kernel
theorem dX7_undo_0 : decode cX7_undo 0 = .ok (.aload_n 0, 1) := by decide +kernel
theorem dX7_undo_1 : decode cX7_undo 1 = .ok (.getfield 40, 3) := by decide +kernel
theorem dX7_undo_4 : decode cX7_undo 4 = .ok (.ifCond .ne 10, 3) := by decide +kernel
theorem dX7_undo_7 : decode cX7_undo 7 = .ok (.aload_n 0, 1) := by decide +kernel
theorem dX7_undo_8 : decode cX7_undo 8 = .ok (.bipush (-3), 2) := by decide +kernel
theorem dX7_undo_10 : decode cX7_undo 10 = .ok (.invokevirtual 52, 3) := by decide +kernel
theorem dX7_undo_13 : decode cX7_undo 13 = .ok (.ireturn, 1) := by decide +kernel
theorem dX7_undo_14 : decode cX7_undo 14 = .ok (.aload_n 0, 1) := by decide +kernel
theorem dX7_undo_15 : decode cX7_undo 15 = .ok (.dup, 1) := by decide +kernel
theorem dX7_undo_16 : decode cX7_undo 16 = .ok (.getfield 40, 3) := by decide +kernel
theorem dX7_undo_19 : decode cX7_undo 19 = .ok (.iconst 1, 1) := by decide +kernel
theorem dX7_undo_20 : decode cX7_undo 20 = .ok (.isub, 1) := by decide +kernel
theorem dX7_undo_21 : decode cX7_undo 21 = .ok (.putfield 40, 3) := by decide +kernel
theorem dX7_undo_24 : decode cX7_undo 24 = .ok (.iconst 0, 1) := by decide +kernel
theorem dX7_undo_25 : decode cX7_undo 25 = .ok (.istore_n 1, 1) := by decide +kernel
theorem dX7_undo_26 : decode cX7_undo 26 = .ok (.iload_n 1, 1) := by decide +kernel
theorem dX7_undo_27 : decode cX7_undo 27 = .ok (.sipush 161, 3) := by decide +kernel
theorem dX7_undo_30 : decode cX7_undo 30 = .ok (.if_icmp .ge 30, 3) := by decide +kernel
theorem dX7_undo_33 : decode cX7_undo 33 = .ok (.aload_n 0, 1) := by decide +kernel
theorem dX7_undo_34 : decode cX7_undo 34 = .ok (.getfield 7, 3) := by decide +kernel
theorem dX7_undo_37 : decode cX7_undo 37 = .ok (.iload_n 1, 1) := by decide +kernel
theorem dX7_undo_38 : decode cX7_undo 38 = .ok (.aload_n 0, 1) := by decide +kernel
theorem dX7_undo_39 : decode cX7_undo 39 = .ok (.getfield 13, 3) := by decide +kernel
theorem dX7_undo_42 : decode cX7_undo 42 = .ok (.sipush 161, 3) := by decide +kernel
theorem dX7_undo_45 : decode cX7_undo 45 = .ok (.aload_n 0, 1) := by decide +kernel
theorem dX7_undo_46 : decode cX7_undo 46 = .ok (.getfield 40, 3) := by decide +kernel
theorem dX7_undo_49 : decode cX7_undo 49 = .ok (.imul, 1) := by decide +kernel
theorem dX7_undo_50 : decode cX7_undo 50 = .ok (.iload_n 1, 1) := by decide +kernel
theorem dX7_undo_51 : decode cX7_undo 51 = .ok (.iadd, 1) := by decide +kernel
theorem dX7_undo_52 : decode cX7_undo 52 = .ok (.iaload, 1) := by decide +kernel
theorem dX7_undo_53 : decode cX7_undo 53 = .ok (.iastore, 1) := by decide +kernel
theorem dX7_undo_54 : decode cX7_undo 54 = .ok (.iinc 1 1, 3) := by decide +kernel
theorem dX7_undo_57 : decode cX7_undo 57 = .ok (.goto (-31), 3) := by decide +kernel
theorem dX7_undo_60 : decode cX7_undo 60 = .ok (.aload_n 0, 1) := by decide +kernel
theorem dX7_undo_61 : decode cX7_undo 61 = .ok (.getfield 40, 3) := by decide +kernel
theorem dX7_undo_64 : decode cX7_undo 64 = .ok (.ireturn, 1) := by decide +kernel
theorem dX7_errorCount_0 : decode cX7_errorCount 0 = .ok (.iload_n 1, 1) := by decide +kernel
theorem dX7_errorCount_1 : decode cX7_errorCount 1 = .ok (.iconst 0, 1) := by decide +kernel
theorem dX7_errorCount_2 : decode cX7_errorCount 2 = .ok (.iconst 2, 1) := by decide +kernel
theorem dX7_errorCount_3 : decode cX7_errorCount 3 = .ok (.invokestatic 44, 3) := by decide +kernel
theorem dX7_errorCount_6 : decode cX7_errorCount 6 = .ok (.ifCond .eq 12, 3) := by decide +kernel
theorem dX7_errorCount_9 : decode cX7_errorCount 9 = .ok (.aload_n 0, 1) := by decide +kernel
theorem dX7_errorCount_10 : decode cX7_errorCount 10 = .ok (.getfield 19, 3) := by decide +kernel
theorem dX7_errorCount_13 : decode cX7_errorCount 13 = .ok (.iload_n 1, 1) := by decide +kernel
theorem dX7_errorCount_14 : decode cX7_errorCount 14 = .ok (.iaload, 1) := by decide +kernel
theorem dX7_errorCount_15 : decode cX7_errorCount 15 = .ok (.goto 9, 3) := by decide +kernel
theorem dX7_errorCount_18 : decode cX7_errorCount 18 = .ok (.aload_n 0, 1) := by decide +kernel
theorem dX7_errorCount_19 : decode cX7_errorCount 19 = .ok (.bipush (-2), 2) := by decide +kernel
theorem dX7_errorCount_21 : decode cX7_errorCount 21 = .ok (.invokevirtual 52, 3) := by decide +kernel
theorem dX7_errorCount_24 : decode cX7_errorCount 24 = .ok (.ireturn, 1) := by decide +kernel
theorem dX7_mix_0 : decode cX7_mix 0 = .ok (.aload_n 0, 1) := by decide +kernel
theorem dX7_mix_1 : decode cX7_mix 1 = .ok (.ldc2_w 148, 3) := by decide +kernel
theorem dX7_mix_4 : decode cX7_mix 4 = .ok (.aload_n 0, 1) := by decide +kernel
theorem dX7_mix_5 : decode cX7_mix 5 = .ok (.getfield 150, 3) := by decide +kernel
theorem dX7_mix_8 : decode cX7_mix 8 = .ok (.lmul, 1) := by decide +kernel
theorem dX7_mix_9 : decode cX7_mix 9 = .ok (.iload_n 1, 1) := by decide +kernel
theorem dX7_mix_10 : decode cX7_mix 10 = .ok (.i2l, 1) := by decide +kernel
theorem dX7_mix_11 : decode cX7_mix 11 = .ok (.ladd, 1) := by decide +kernel
theorem dX7_mix_12 : decode cX7_mix 12 = .ok (.putfield 150, 3) := by decide +kernel
theorem dX7_mix_15 : decode cX7_mix 15 = .ok (.return_, 1) := by decide +kernel
theorem dX7_mixRules_0 : decode cX7_mixRules 0 = .ok (.iconst 0, 1) := by decide +kernel
theorem dX7_mixRules_1 : decode cX7_mixRules 1 = .ok (.istore_n 1, 1) := by decide +kernel
theorem dX7_mixRules_2 : decode cX7_mixRules 2 = .ok (.iload_n 1, 1) := by decide +kernel
theorem dX7_mixRules_3 : decode cX7_mixRules 3 = .ok (.bipush 6, 2) := by decide +kernel
theorem dX7_mixRules_5 : decode cX7_mixRules 5 = .ok (.if_icmp .ge 67, 3) := by decide +kernel
theorem dX7_mixRules_8 : decode cX7_mixRules 8 = .ok (.aload_n 0, 1) := by decide +kernel
theorem dX7_mixRules_9 : decode cX7_mixRules 9 = .ok (.aload_n 0, 1) := by decide +kernel
theorem dX7_mixRules_10 : decode cX7_mixRules 10 = .ok (.getfield 7, 3) := by decide +kernel
theorem dX7_mixRules_13 : decode cX7_mixRules 13 = .ok (.bipush 101, 2) := by decide +kernel
theorem dX7_mixRules_15 : decode cX7_mixRules 15 = .ok (.iload_n 1, 1) := by decide +kernel
theorem dX7_mixRules_16 : decode cX7_mixRules 16 = .ok (.iadd, 1) := by decide +kernel
theorem dX7_mixRules_17 : decode cX7_mixRules 17 = .ok (.iaload, 1) := by decide +kernel
theorem dX7_mixRules_18 : decode cX7_mixRules 18 = .ok (.invokevirtual 154, 3) := by decide +kernel
theorem dX7_mixRules_21 : decode cX7_mixRules 21 = .ok (.iconst 0, 1) := by decide +kernel
theorem dX7_mixRules_22 : decode cX7_mixRules 22 = .ok (.istore_n 2, 1) := by decide +kernel
theorem dX7_mixRules_23 : decode cX7_mixRules 23 = .ok (.iload_n 2, 1) := by decide +kernel
theorem dX7_mixRules_24 : decode cX7_mixRules 24 = .ok (.aload_n 0, 1) := by decide +kernel
theorem dX7_mixRules_25 : decode cX7_mixRules 25 = .ok (.getfield 7, 3) := by decide +kernel
theorem dX7_mixRules_28 : decode cX7_mixRules 28 = .ok (.bipush 101, 2) := by decide +kernel
theorem dX7_mixRules_30 : decode cX7_mixRules 30 = .ok (.iload_n 1, 1) := by decide +kernel
theorem dX7_mixRules_31 : decode cX7_mixRules 31 = .ok (.iadd, 1) := by decide +kernel
theorem dX7_mixRules_32 : decode cX7_mixRules 32 = .ok (.iaload, 1) := by decide +kernel
theorem dX7_mixRules_33 : decode cX7_mixRules 33 = .ok (.if_icmp .ge 19, 3) := by decide +kernel
theorem dX7_mixRules_36 : decode cX7_mixRules 36 = .ok (.aload_n 0, 1) := by decide +kernel
theorem dX7_mixRules_37 : decode cX7_mixRules 37 = .ok (.aload_n 0, 1) := by decide +kernel
theorem dX7_mixRules_38 : decode cX7_mixRules 38 = .ok (.iload_n 1, 1) := by decide +kernel
theorem dX7_mixRules_39 : decode cX7_mixRules 39 = .ok (.iload_n 2, 1) := by decide +kernel
theorem dX7_mixRules_40 : decode cX7_mixRules 40 = .ok (.invokevirtual 71, 3) := by decide +kernel
theorem dX7_mixRules_43 : decode cX7_mixRules 43 = .ok (.invokevirtual 154, 3) := by decide +kernel
theorem dX7_mixRules_46 : decode cX7_mixRules 46 = .ok (.iinc 2 1, 3) := by decide +kernel
theorem dX7_mixRules_49 : decode cX7_mixRules 49 = .ok (.goto (-26), 3) := by decide +kernel
theorem dX7_mixRules_52 : decode cX7_mixRules 52 = .ok (.aload_n 0, 1) := by decide +kernel
theorem dX7_mixRules_53 : decode cX7_mixRules 53 = .ok (.aload_n 0, 1) := by decide +kernel
theorem dX7_mixRules_54 : decode cX7_mixRules 54 = .ok (.getfield 7, 3) := by decide +kernel
theorem dX7_mixRules_57 : decode cX7_mixRules 57 = .ok (.sipush 155, 3) := by decide +kernel
theorem dX7_mixRules_60 : decode cX7_mixRules 60 = .ok (.iload_n 1, 1) := by decide +kernel
theorem dX7_mixRules_61 : decode cX7_mixRules 61 = .ok (.iadd, 1) := by decide +kernel
theorem dX7_mixRules_62 : decode cX7_mixRules 62 = .ok (.iaload, 1) := by decide +kernel
theorem dX7_mixRules_63 : decode cX7_mixRules 63 = .ok (.invokevirtual 154, 3) := by decide +kernel
theorem dX7_mixRules_66 : decode cX7_mixRules 66 = .ok (.iinc 1 1, 3) := by decide +kernel
theorem dX7_mixRules_69 : decode cX7_mixRules 69 = .ok (.goto (-67), 3) := by decide +kernel
theorem dX7_mixRules_72 : decode cX7_mixRules 72 = .ok (.return_, 1) := by decide +kernel
theorem dX7_digest_0 : decode cX7_digest 0 = .ok (.aload_n 0, 1) := by decide +kernel
theorem dX7_digest_1 : decode cX7_digest 1 = .ok (.invokevirtual 130, 3) := by decide +kernel
theorem dX7_digest_4 : decode cX7_digest 4 = .ok (.aload_n 0, 1) := by decide +kernel
theorem dX7_digest_5 : decode cX7_digest 5 = .ok (.ldc2_w 157, 3) := by decide +kernel
theorem dX7_digest_8 : decode cX7_digest 8 = .ok (.putfield 150, 3) := by decide +kernel
theorem dX7_digest_11 : decode cX7_digest 11 = .ok (.aload_n 0, 1) := by decide +kernel
theorem dX7_digest_12 : decode cX7_digest 12 = .ok (.aload_n 0, 1) := by decide +kernel
theorem dX7_digest_13 : decode cX7_digest 13 = .ok (.getfield 19, 3) := by decide +kernel
theorem dX7_digest_16 : decode cX7_digest 16 = .ok (.iconst 0, 1) := by decide +kernel
theorem dX7_digest_17 : decode cX7_digest 17 = .ok (.iaload, 1) := by decide +kernel
theorem dX7_digest_18 : decode cX7_digest 18 = .ok (.invokevirtual 154, 3) := by decide +kernel
theorem dX7_digest_21 : decode cX7_digest 21 = .ok (.aload_n 0, 1) := by decide +kernel
theorem dX7_digest_22 : decode cX7_digest 22 = .ok (.aload_n 0, 1) := by decide +kernel
theorem dX7_digest_23 : decode cX7_digest 23 = .ok (.getfield 19, 3) := by decide +kernel
theorem dX7_digest_26 : decode cX7_digest 26 = .ok (.iconst 1, 1) := by decide +kernel
theorem dX7_digest_27 : decode cX7_digest 27 = .ok (.iaload, 1) := by decide +kernel
theorem dX7_digest_28 : decode cX7_digest 28 = .ok (.invokevirtual 154, 3) := by decide +kernel
theorem dX7_digest_31 : decode cX7_digest 31 = .ok (.aload_n 0, 1) := by decide +kernel
theorem dX7_digest_32 : decode cX7_digest 32 = .ok (.aload_n 0, 1) := by decide +kernel
theorem dX7_digest_33 : decode cX7_digest 33 = .ok (.getfield 19, 3) := by decide +kernel
theorem dX7_digest_36 : decode cX7_digest 36 = .ok (.iconst 2, 1) := by decide +kernel
theorem dX7_digest_37 : decode cX7_digest 37 = .ok (.iaload, 1) := by decide +kernel
theorem dX7_digest_38 : decode cX7_digest 38 = .ok (.invokevirtual 154, 3) := by decide +kernel
theorem dX7_digest_41 : decode cX7_digest 41 = .ok (.aload_n 0, 1) := by decide +kernel
theorem dX7_digest_42 : decode cX7_digest 42 = .ok (.aload_n 0, 1) := by decide +kernel
theorem dX7_digest_43 : decode cX7_digest 43 = .ok (.getfield 62, 3) := by decide +kernel
theorem dX7_digest_46 : decode cX7_digest 46 = .ok (.invokevirtual 154, 3) := by decide +kernel
theorem dX7_digest_49 : decode cX7_digest 49 = .ok (.aload_n 0, 1) := by decide +kernel
theorem dX7_digest_50 : decode cX7_digest 50 = .ok (.aload_n 0, 1) := by decide +kernel
theorem dX7_digest_51 : decode cX7_digest 51 = .ok (.getfield 40, 3) := by decide +kernel
theorem dX7_digest_54 : decode cX7_digest 54 = .ok (.invokevirtual 154, 3) := by decide +kernel
theorem dX7_digest_57 : decode cX7_digest 57 = .ok (.aload_n 0, 1) := by decide +kernel
theorem dX7_digest_58 : decode cX7_digest 58 = .ok (.aload_n 0, 1) := by decide +kernel
theorem dX7_digest_59 : decode cX7_digest 59 = .ok (.getfield 7, 3) := by decide +kernel
theorem dX7_digest_62 : decode cX7_digest 62 = .ok (.iconst 0, 1) := by decide +kernel
theorem dX7_digest_63 : decode cX7_digest 63 = .ok (.iaload, 1) := by decide +kernel
theorem dX7_digest_64 : decode cX7_digest 64 = .ok (.invokevirtual 154, 3) := by decide +kernel
theorem dX7_digest_67 : decode cX7_digest 67 = .ok (.iconst 0, 1) := by decide +kernel
theorem dX7_digest_68 : decode cX7_digest 68 = .ok (.istore_n 1, 1) := by decide +kernel
theorem dX7_digest_69 : decode cX7_digest 69 = .ok (.iload_n 1, 1) := by decide +kernel
theorem dX7_digest_70 : decode cX7_digest 70 = .ok (.aload_n 0, 1) := by decide +kernel
theorem dX7_digest_71 : decode cX7_digest 71 = .ok (.getfield 7, 3) := by decide +kernel
theorem dX7_digest_74 : decode cX7_digest 74 = .ok (.iconst 0, 1) := by decide +kernel
theorem dX7_digest_75 : decode cX7_digest 75 = .ok (.iaload, 1) := by decide +kernel
theorem dX7_digest_76 : decode cX7_digest 76 = .ok (.if_icmp .ge 21, 3) := by decide +kernel
theorem dX7_digest_79 : decode cX7_digest 79 = .ok (.aload_n 0, 1) := by decide +kernel
theorem dX7_digest_80 : decode cX7_digest 80 = .ok (.aload_n 0, 1) := by decide +kernel
theorem dX7_digest_81 : decode cX7_digest 81 = .ok (.getfield 7, 3) := by decide +kernel
theorem dX7_digest_84 : decode cX7_digest 84 = .ok (.iconst 1, 1) := by decide +kernel
theorem dX7_digest_85 : decode cX7_digest 85 = .ok (.iload_n 1, 1) := by decide +kernel
theorem dX7_digest_86 : decode cX7_digest 86 = .ok (.iadd, 1) := by decide +kernel
theorem dX7_digest_87 : decode cX7_digest 87 = .ok (.iaload, 1) := by decide +kernel
theorem dX7_digest_88 : decode cX7_digest 88 = .ok (.invokevirtual 154, 3) := by decide +kernel
theorem dX7_digest_91 : decode cX7_digest 91 = .ok (.iinc 1 1, 3) := by decide +kernel
theorem dX7_digest_94 : decode cX7_digest 94 = .ok (.goto (-25), 3) := by decide +kernel
theorem dX7_digest_97 : decode cX7_digest 97 = .ok (.aload_n 0, 1) := by decide +kernel
theorem dX7_digest_98 : decode cX7_digest 98 = .ok (.invokevirtual 159, 3) := by decide +kernel
theorem dX7_digest_101 : decode cX7_digest 101 = .ok (.aload_n 0, 1) := by decide +kernel
theorem dX7_digest_102 : decode cX7_digest 102 = .ok (.aload_n 0, 1) := by decide +kernel
theorem dX7_digest_103 : decode cX7_digest 103 = .ok (.getfield 100, 3) := by decide +kernel
theorem dX7_digest_106 : decode cX7_digest 106 = .ok (.invokevirtual 154, 3) := by decide +kernel
theorem dX7_digest_109 : decode cX7_digest 109 = .ok (.iconst 0, 1) := by decide +kernel
theorem dX7_digest_110 : decode cX7_digest 110 = .ok (.istore_n 1, 1) := by decide +kernel
theorem dX7_digest_111 : decode cX7_digest 111 = .ok (.iload_n 1, 1) := by decide +kernel
theorem dX7_digest_112 : decode cX7_digest 112 = .ok (.aload_n 0, 1) := by decide +kernel
theorem dX7_digest_113 : decode cX7_digest 113 = .ok (.getfield 100, 3) := by decide +kernel
theorem dX7_digest_116 : decode cX7_digest 116 = .ok (.if_icmp .ge 73, 3) := by decide +kernel
theorem dX7_digest_119 : decode cX7_digest 119 = .ok (.aload_n 0, 1) := by decide +kernel
theorem dX7_digest_120 : decode cX7_digest 120 = .ok (.iload_n 1, 1) := by decide +kernel
theorem dX7_digest_121 : decode cX7_digest 121 = .ok (.invokevirtual 133, 3) := by decide +kernel
theorem dX7_digest_124 : decode cX7_digest 124 = .ok (.istore_n 2, 1) := by decide +kernel
theorem dX7_digest_125 : decode cX7_digest 125 = .ok (.aload_n 0, 1) := by decide +kernel
theorem dX7_digest_126 : decode cX7_digest 126 = .ok (.aload_n 0, 1) := by decide +kernel
theorem dX7_digest_127 : decode cX7_digest 127 = .ok (.getfield 25, 3) := by decide +kernel
theorem dX7_digest_130 : decode cX7_digest 130 = .ok (.iload_n 2, 1) := by decide +kernel
theorem dX7_digest_131 : decode cX7_digest 131 = .ok (.iaload, 1) := by decide +kernel
theorem dX7_digest_132 : decode cX7_digest 132 = .ok (.invokevirtual 154, 3) := by decide +kernel
theorem dX7_digest_135 : decode cX7_digest 135 = .ok (.aload_n 0, 1) := by decide +kernel
theorem dX7_digest_136 : decode cX7_digest 136 = .ok (.aload_n 0, 1) := by decide +kernel
theorem dX7_digest_137 : decode cX7_digest 137 = .ok (.getfield 28, 3) := by decide +kernel
theorem dX7_digest_140 : decode cX7_digest 140 = .ok (.iload_n 2, 1) := by decide +kernel
theorem dX7_digest_141 : decode cX7_digest 141 = .ok (.iaload, 1) := by decide +kernel
theorem dX7_digest_142 : decode cX7_digest 142 = .ok (.invokevirtual 154, 3) := by decide +kernel
theorem dX7_digest_145 : decode cX7_digest 145 = .ok (.aload_n 0, 1) := by decide +kernel
theorem dX7_digest_146 : decode cX7_digest 146 = .ok (.aload_n 0, 1) := by decide +kernel
theorem dX7_digest_147 : decode cX7_digest 147 = .ok (.iload_n 2, 1) := by decide +kernel
theorem dX7_digest_148 : decode cX7_digest 148 = .ok (.invokevirtual 136, 3) := by decide +kernel
theorem dX7_digest_151 : decode cX7_digest 151 = .ok (.invokevirtual 154, 3) := by decide +kernel
theorem dX7_digest_154 : decode cX7_digest 154 = .ok (.aload_n 0, 1) := by decide +kernel
theorem dX7_digest_155 : decode cX7_digest 155 = .ok (.aload_n 0, 1) := by decide +kernel
theorem dX7_digest_156 : decode cX7_digest 156 = .ok (.iload_n 2, 1) := by decide +kernel
theorem dX7_digest_157 : decode cX7_digest 157 = .ok (.invokevirtual 139, 3) := by decide +kernel
theorem dX7_digest_160 : decode cX7_digest 160 = .ok (.invokevirtual 154, 3) := by decide +kernel
theorem dX7_digest_163 : decode cX7_digest 163 = .ok (.aload_n 0, 1) := by decide +kernel
theorem dX7_digest_164 : decode cX7_digest 164 = .ok (.aload_n 0, 1) := by decide +kernel
theorem dX7_digest_165 : decode cX7_digest 165 = .ok (.getfield 34, 3) := by decide +kernel
theorem dX7_digest_168 : decode cX7_digest 168 = .ok (.iload_n 2, 1) := by decide +kernel
theorem dX7_digest_169 : decode cX7_digest 169 = .ok (.iaload, 1) := by decide +kernel
theorem dX7_digest_170 : decode cX7_digest 170 = .ok (.invokevirtual 154, 3) := by decide +kernel
theorem dX7_digest_173 : decode cX7_digest 173 = .ok (.aload_n 0, 1) := by decide +kernel
theorem dX7_digest_174 : decode cX7_digest 174 = .ok (.aload_n 0, 1) := by decide +kernel
theorem dX7_digest_175 : decode cX7_digest 175 = .ok (.getfield 37, 3) := by decide +kernel
theorem dX7_digest_178 : decode cX7_digest 178 = .ok (.iload_n 2, 1) := by decide +kernel
theorem dX7_digest_179 : decode cX7_digest 179 = .ok (.iaload, 1) := by decide +kernel
theorem dX7_digest_180 : decode cX7_digest 180 = .ok (.invokevirtual 154, 3) := by decide +kernel
theorem dX7_digest_183 : decode cX7_digest 183 = .ok (.iinc 1 1, 3) := by decide +kernel
theorem dX7_digest_186 : decode cX7_digest 186 = .ok (.goto (-75), 3) := by decide +kernel
theorem dX7_digest_189 : decode cX7_digest 189 = .ok (.aload_n 0, 1) := by decide +kernel
theorem dX7_digest_190 : decode cX7_digest 190 = .ok (.aload_n 0, 1) := by decide +kernel
theorem dX7_digest_191 : decode cX7_digest 191 = .ok (.getfield 114, 3) := by decide +kernel
theorem dX7_digest_194 : decode cX7_digest 194 = .ok (.invokevirtual 154, 3) := by decide +kernel
theorem dX7_digest_197 : decode cX7_digest 197 = .ok (.aload_n 0, 1) := by decide +kernel
theorem dX7_digest_198 : decode cX7_digest 198 = .ok (.aload_n 0, 1) := by decide +kernel
theorem dX7_digest_199 : decode cX7_digest 199 = .ok (.getfield 117, 3) := by decide +kernel
theorem dX7_digest_202 : decode cX7_digest 202 = .ok (.invokevirtual 154, 3) := by decide +kernel
theorem dX7_digest_205 : decode cX7_digest 205 = .ok (.aload_n 0, 1) := by decide +kernel
theorem dX7_digest_206 : decode cX7_digest 206 = .ok (.getfield 150, 3) := by decide +kernel
theorem dX7_digest_209 : decode cX7_digest 209 = .ok (.lreturn, 1) := by decide +kernel
theorem dJ9_max_7cf53_0 : decode cJ9_max_7cf53 0 = .ok (.iload_n 0, 1) := by decide +kernel
theorem dJ9_max_7cf53_1 : decode cJ9_max_7cf53 1 = .ok (.iload_n 1, 1) := by decide +kernel
theorem dJ9_max_7cf53_2 : decode cJ9_max_7cf53 2 = .ok (.if_icmp .lt 7, 3) := by decide +kernel
theorem dJ9_max_7cf53_5 : decode cJ9_max_7cf53 5 = .ok (.iload_n 0, 1) := by decide +kernel
theorem dJ9_max_7cf53_6 : decode cJ9_max_7cf53 6 = .ok (.goto 4, 3) := by decide +kernel
theorem dJ9_max_7cf53_9 : decode cJ9_max_7cf53 9 = .ok (.iload_n 1, 1) := by decide +kernel
theorem dJ9_max_7cf53_10 : decode cJ9_max_7cf53 10 = .ok (.ireturn, 1) := by decide +kernel
theorem dJ9_min_7cf53_0 : decode cJ9_min_7cf53 0 = .ok (.iload_n 0, 1) := by decide +kernel
theorem dJ9_min_7cf53_1 : decode cJ9_min_7cf53 1 = .ok (.iload_n 1, 1) := by decide +kernel
theorem dJ9_min_7cf53_2 : decode cJ9_min_7cf53 2 = .ok (.if_icmp .gt 7, 3) := by decide +kernel
theorem dJ9_min_7cf53_5 : decode cJ9_min_7cf53 5 = .ok (.iload_n 0, 1) := by decide +kernel
theorem dJ9_min_7cf53_6 : decode cJ9_min_7cf53 6 = .ok (.goto 4, 3) := by decide +kernel
theorem dJ9_min_7cf53_9 : decode cJ9_min_7cf53 9 = .ok (.iload_n 1, 1) := by decide +kernel
theorem dJ9_min_7cf53_10 : decode cJ9_min_7cf53 10 = .ok (.ireturn, 1) := by decide +kernel
theorem dL_law_0 : decode cL_law 0 = .ok (.new 7, 3) := by decide +kernel
theorem dL_law_3 : decode cL_law 3 = .ok (.dup, 1) := by decide +kernel
theorem dL_law_4 : decode cL_law 4 = .ok (.invokespecial 9, 3) := by decide +kernel
theorem dL_law_7 : decode cL_law 7 = .ok (.astore_n 1, 1) := by decide +kernel
theorem dL_law_8 : decode cL_law 8 = .ok (.new 10, 3) := by decide +kernel
theorem dL_law_11 : decode cL_law 11 = .ok (.dup, 1) := by decide +kernel
theorem dL_law_12 : decode cL_law 12 = .ok (.invokespecial 12, 3) := by decide +kernel
theorem dL_law_15 : decode cL_law 15 = .ok (.astore_n 2, 1) := by decide +kernel
theorem dL_law_16 : decode cL_law 16 = .ok (.iconst 0, 1) := by decide +kernel
theorem dL_law_17 : decode cL_law 17 = .ok (.istore_n 3, 1) := by decide +kernel
theorem dL_law_18 : decode cL_law 18 = .ok (.iload_n 3, 1) := by decide +kernel
theorem dL_law_19 : decode cL_law 19 = .ok (.aload_n 0, 1) := by decide +kernel
theorem dL_law_20 : decode cL_law 20 = .ok (.arraylength, 1) := by decide +kernel
theorem dL_law_21 : decode cL_law 21 = .ok (.iconst 3, 1) := by decide +kernel
theorem dL_law_22 : decode cL_law 22 = .ok (.isub, 1) := by decide +kernel
theorem dL_law_23 : decode cL_law 23 = .ok (.if_icmp .gt 768, 3) := by decide +kernel
theorem dL_law_26 : decode cL_law 26 = .ok (.aload_n 0, 1) := by decide +kernel
theorem dL_law_27 : decode cL_law 27 = .ok (.iload_n 3, 1) := by decide +kernel
theorem dL_law_28 : decode cL_law 28 = .ok (.iaload, 1) := by decide +kernel
theorem dL_law_29 : decode cL_law 29 = .ok (.bipush 31, 2) := by decide +kernel
theorem dL_law_31 : decode cL_law 31 = .ok (.iand, 1) := by decide +kernel
theorem dL_law_32 : decode cL_law 32 = .ok (.tableswitch 753 0 27 #[128, 161, 194, 227, 240, 263, 286, 299, 322, 345, 378, 411, 444, 457, 470, 493, 516, 539, 562, 585, 608, 631, 654, 667, 680, 703, 716, 739], 128) := by decide +kernel
theorem dL_law_160 : decode cL_law 160 = .ok (.aload_n 1, 1) := by decide +kernel
theorem dL_law_161 : decode cL_law 161 = .ok (.aload_n 0, 1) := by decide +kernel
theorem dL_law_162 : decode cL_law 162 = .ok (.iload_n 3, 1) := by decide +kernel
theorem dL_law_163 : decode cL_law 163 = .ok (.iconst 1, 1) := by decide +kernel
theorem dL_law_164 : decode cL_law 164 = .ok (.iadd, 1) := by decide +kernel
theorem dL_law_165 : decode cL_law 165 = .ok (.iaload, 1) := by decide +kernel
theorem dL_law_166 : decode cL_law 166 = .ok (.aload_n 0, 1) := by decide +kernel
theorem dL_law_167 : decode cL_law 167 = .ok (.iload_n 3, 1) := by decide +kernel
theorem dL_law_168 : decode cL_law 168 = .ok (.iconst 2, 1) := by decide +kernel
theorem dL_law_169 : decode cL_law 169 = .ok (.iadd, 1) := by decide +kernel
theorem dL_law_170 : decode cL_law 170 = .ok (.iaload, 1) := by decide +kernel
theorem dL_law_171 : decode cL_law 171 = .ok (.invokevirtual 13, 3) := by decide +kernel
theorem dL_law_174 : decode cL_law 174 = .ok (.aload_n 2, 1) := by decide +kernel
theorem dL_law_175 : decode cL_law 175 = .ok (.aload_n 0, 1) := by decide +kernel
theorem dL_law_176 : decode cL_law 176 = .ok (.iload_n 3, 1) := by decide +kernel
theorem dL_law_177 : decode cL_law 177 = .ok (.iconst 1, 1) := by decide +kernel
theorem dL_law_178 : decode cL_law 178 = .ok (.iadd, 1) := by decide +kernel
theorem dL_law_179 : decode cL_law 179 = .ok (.iaload, 1) := by decide +kernel
theorem dL_law_180 : decode cL_law 180 = .ok (.aload_n 0, 1) := by decide +kernel
theorem dL_law_181 : decode cL_law 181 = .ok (.iload_n 3, 1) := by decide +kernel
theorem dL_law_182 : decode cL_law 182 = .ok (.iconst 2, 1) := by decide +kernel
theorem dL_law_183 : decode cL_law 183 = .ok (.iadd, 1) := by decide +kernel
theorem dL_law_184 : decode cL_law 184 = .ok (.iaload, 1) := by decide +kernel
theorem dL_law_185 : decode cL_law 185 = .ok (.invokevirtual 17, 3) := by decide +kernel
theorem dL_law_188 : decode cL_law 188 = .ok (.if_icmp .eq 597, 3) := by decide +kernel
theorem dL_law_191 : decode cL_law 191 = .ok (.iconst 0, 1) := by decide +kernel
theorem dL_law_192 : decode cL_law 192 = .ok (.ireturn, 1) := by decide +kernel
theorem dL_law_193 : decode cL_law 193 = .ok (.aload_n 1, 1) := by decide +kernel
theorem dL_law_194 : decode cL_law 194 = .ok (.aload_n 0, 1) := by decide +kernel
theorem dL_law_195 : decode cL_law 195 = .ok (.iload_n 3, 1) := by decide +kernel
theorem dL_law_196 : decode cL_law 196 = .ok (.iconst 1, 1) := by decide +kernel
theorem dL_law_197 : decode cL_law 197 = .ok (.iadd, 1) := by decide +kernel
theorem dL_law_198 : decode cL_law 198 = .ok (.iaload, 1) := by decide +kernel
theorem dL_law_199 : decode cL_law 199 = .ok (.aload_n 0, 1) := by decide +kernel
theorem dL_law_200 : decode cL_law 200 = .ok (.iload_n 3, 1) := by decide +kernel
theorem dL_law_201 : decode cL_law 201 = .ok (.iconst 2, 1) := by decide +kernel
theorem dL_law_202 : decode cL_law 202 = .ok (.iadd, 1) := by decide +kernel
theorem dL_law_203 : decode cL_law 203 = .ok (.iaload, 1) := by decide +kernel
theorem dL_law_204 : decode cL_law 204 = .ok (.invokevirtual 18, 3) := by decide +kernel
theorem dL_law_207 : decode cL_law 207 = .ok (.aload_n 2, 1) := by decide +kernel
theorem dL_law_208 : decode cL_law 208 = .ok (.aload_n 0, 1) := by decide +kernel
theorem dL_law_209 : decode cL_law 209 = .ok (.iload_n 3, 1) := by decide +kernel
theorem dL_law_210 : decode cL_law 210 = .ok (.iconst 1, 1) := by decide +kernel
theorem dL_law_211 : decode cL_law 211 = .ok (.iadd, 1) := by decide +kernel
theorem dL_law_212 : decode cL_law 212 = .ok (.iaload, 1) := by decide +kernel
theorem dL_law_213 : decode cL_law 213 = .ok (.aload_n 0, 1) := by decide +kernel
theorem dL_law_214 : decode cL_law 214 = .ok (.iload_n 3, 1) := by decide +kernel
theorem dL_law_215 : decode cL_law 215 = .ok (.iconst 2, 1) := by decide +kernel
theorem dL_law_216 : decode cL_law 216 = .ok (.iadd, 1) := by decide +kernel
theorem dL_law_217 : decode cL_law 217 = .ok (.iaload, 1) := by decide +kernel
theorem dL_law_218 : decode cL_law 218 = .ok (.invokevirtual 21, 3) := by decide +kernel
theorem dL_law_221 : decode cL_law 221 = .ok (.if_icmp .eq 564, 3) := by decide +kernel
theorem dL_law_224 : decode cL_law 224 = .ok (.iconst 0, 1) := by decide +kernel
theorem dL_law_225 : decode cL_law 225 = .ok (.ireturn, 1) := by decide +kernel
theorem dL_law_226 : decode cL_law 226 = .ok (.aload_n 1, 1) := by decide +kernel
theorem dL_law_227 : decode cL_law 227 = .ok (.aload_n 0, 1) := by decide +kernel
theorem dL_law_228 : decode cL_law 228 = .ok (.iload_n 3, 1) := by decide +kernel
theorem dL_law_229 : decode cL_law 229 = .ok (.iconst 1, 1) := by decide +kernel
theorem dL_law_230 : decode cL_law 230 = .ok (.iadd, 1) := by decide +kernel
theorem dL_law_231 : decode cL_law 231 = .ok (.iaload, 1) := by decide +kernel
theorem dL_law_232 : decode cL_law 232 = .ok (.aload_n 0, 1) := by decide +kernel
theorem dL_law_233 : decode cL_law 233 = .ok (.iload_n 3, 1) := by decide +kernel
theorem dL_law_234 : decode cL_law 234 = .ok (.iconst 2, 1) := by decide +kernel
theorem dL_law_235 : decode cL_law 235 = .ok (.iadd, 1) := by decide +kernel
theorem dL_law_236 : decode cL_law 236 = .ok (.iaload, 1) := by decide +kernel
theorem dL_law_237 : decode cL_law 237 = .ok (.invokevirtual 22, 3) := by decide +kernel
theorem dL_law_240 : decode cL_law 240 = .ok (.aload_n 2, 1) := by decide +kernel
theorem dL_law_241 : decode cL_law 241 = .ok (.aload_n 0, 1) := by decide +kernel
theorem dL_law_242 : decode cL_law 242 = .ok (.iload_n 3, 1) := by decide +kernel
theorem dL_law_243 : decode cL_law 243 = .ok (.iconst 1, 1) := by decide +kernel
theorem dL_law_244 : decode cL_law 244 = .ok (.iadd, 1) := by decide +kernel
theorem dL_law_245 : decode cL_law 245 = .ok (.iaload, 1) := by decide +kernel
theorem dL_law_246 : decode cL_law 246 = .ok (.aload_n 0, 1) := by decide +kernel
theorem dL_law_247 : decode cL_law 247 = .ok (.iload_n 3, 1) := by decide +kernel
theorem dL_law_248 : decode cL_law 248 = .ok (.iconst 2, 1) := by decide +kernel
theorem dL_law_249 : decode cL_law 249 = .ok (.iadd, 1) := by decide +kernel
theorem dL_law_250 : decode cL_law 250 = .ok (.iaload, 1) := by decide +kernel
theorem dL_law_251 : decode cL_law 251 = .ok (.invokevirtual 25, 3) := by decide +kernel
theorem dL_law_254 : decode cL_law 254 = .ok (.if_icmp .eq 531, 3) := by decide +kernel
theorem dL_law_257 : decode cL_law 257 = .ok (.iconst 0, 1) := by decide +kernel
theorem dL_law_258 : decode cL_law 258 = .ok (.ireturn, 1) := by decide +kernel
theorem dL_law_259 : decode cL_law 259 = .ok (.aload_n 1, 1) := by decide +kernel
theorem dL_law_260 : decode cL_law 260 = .ok (.invokevirtual 26, 3) := by decide +kernel
theorem dL_law_263 : decode cL_law 263 = .ok (.aload_n 2, 1) := by decide +kernel
theorem dL_law_264 : decode cL_law 264 = .ok (.invokevirtual 30, 3) := by decide +kernel
theorem dL_law_267 : decode cL_law 267 = .ok (.if_icmp .eq 518, 3) := by decide +kernel
theorem dL_law_270 : decode cL_law 270 = .ok (.iconst 0, 1) := by decide +kernel
theorem dL_law_271 : decode cL_law 271 = .ok (.ireturn, 1) := by decide +kernel
theorem dL_law_272 : decode cL_law 272 = .ok (.aload_n 1, 1) := by decide +kernel
theorem dL_law_273 : decode cL_law 273 = .ok (.aload_n 0, 1) := by decide +kernel
theorem dL_law_274 : decode cL_law 274 = .ok (.iload_n 3, 1) := by decide +kernel
theorem dL_law_275 : decode cL_law 275 = .ok (.iconst 1, 1) := by decide +kernel
theorem dL_law_276 : decode cL_law 276 = .ok (.iadd, 1) := by decide +kernel
theorem dL_law_277 : decode cL_law 277 = .ok (.iaload, 1) := by decide +kernel
theorem dL_law_278 : decode cL_law 278 = .ok (.invokevirtual 31, 3) := by decide +kernel
theorem dL_law_281 : decode cL_law 281 = .ok (.aload_n 2, 1) := by decide +kernel
theorem dL_law_282 : decode cL_law 282 = .ok (.aload_n 0, 1) := by decide +kernel
theorem dL_law_283 : decode cL_law 283 = .ok (.iload_n 3, 1) := by decide +kernel
theorem dL_law_284 : decode cL_law 284 = .ok (.iconst 1, 1) := by decide +kernel
theorem dL_law_285 : decode cL_law 285 = .ok (.iadd, 1) := by decide +kernel
theorem dL_law_286 : decode cL_law 286 = .ok (.iaload, 1) := by decide +kernel
theorem dL_law_287 : decode cL_law 287 = .ok (.invokevirtual 35, 3) := by decide +kernel
theorem dL_law_290 : decode cL_law 290 = .ok (.if_icmp .eq 495, 3) := by decide +kernel
theorem dL_law_293 : decode cL_law 293 = .ok (.iconst 0, 1) := by decide +kernel
theorem dL_law_294 : decode cL_law 294 = .ok (.ireturn, 1) := by decide +kernel
theorem dL_law_295 : decode cL_law 295 = .ok (.aload_n 1, 1) := by decide +kernel
theorem dL_law_296 : decode cL_law 296 = .ok (.aload_n 0, 1) := by decide +kernel
theorem dL_law_297 : decode cL_law 297 = .ok (.iload_n 3, 1) := by decide +kernel
theorem dL_law_298 : decode cL_law 298 = .ok (.iconst 1, 1) := by decide +kernel
theorem dL_law_299 : decode cL_law 299 = .ok (.iadd, 1) := by decide +kernel
theorem dL_law_300 : decode cL_law 300 = .ok (.iaload, 1) := by decide +kernel
theorem dL_law_301 : decode cL_law 301 = .ok (.invokevirtual 36, 3) := by decide +kernel
theorem dL_law_304 : decode cL_law 304 = .ok (.aload_n 2, 1) := by decide +kernel
theorem dL_law_305 : decode cL_law 305 = .ok (.aload_n 0, 1) := by decide +kernel
theorem dL_law_306 : decode cL_law 306 = .ok (.iload_n 3, 1) := by decide +kernel
theorem dL_law_307 : decode cL_law 307 = .ok (.iconst 1, 1) := by decide +kernel
theorem dL_law_308 : decode cL_law 308 = .ok (.iadd, 1) := by decide +kernel
theorem dL_law_309 : decode cL_law 309 = .ok (.iaload, 1) := by decide +kernel
theorem dL_law_310 : decode cL_law 310 = .ok (.invokevirtual 39, 3) := by decide +kernel
theorem dL_law_313 : decode cL_law 313 = .ok (.if_icmp .eq 472, 3) := by decide +kernel
theorem dL_law_316 : decode cL_law 316 = .ok (.iconst 0, 1) := by decide +kernel
theorem dL_law_317 : decode cL_law 317 = .ok (.ireturn, 1) := by decide +kernel
theorem dL_law_318 : decode cL_law 318 = .ok (.aload_n 1, 1) := by decide +kernel
theorem dL_law_319 : decode cL_law 319 = .ok (.invokevirtual 40, 3) := by decide +kernel
theorem dL_law_322 : decode cL_law 322 = .ok (.aload_n 2, 1) := by decide +kernel
theorem dL_law_323 : decode cL_law 323 = .ok (.invokevirtual 43, 3) := by decide +kernel
theorem dL_law_326 : decode cL_law 326 = .ok (.if_icmp .eq 459, 3) := by decide +kernel
theorem dL_law_329 : decode cL_law 329 = .ok (.iconst 0, 1) := by decide +kernel
theorem dL_law_330 : decode cL_law 330 = .ok (.ireturn, 1) := by decide +kernel
theorem dL_law_331 : decode cL_law 331 = .ok (.aload_n 1, 1) := by decide +kernel
theorem dL_law_332 : decode cL_law 332 = .ok (.aload_n 0, 1) := by decide +kernel
theorem dL_law_333 : decode cL_law 333 = .ok (.iload_n 3, 1) := by decide +kernel
theorem dL_law_334 : decode cL_law 334 = .ok (.iconst 1, 1) := by decide +kernel
theorem dL_law_335 : decode cL_law 335 = .ok (.iadd, 1) := by decide +kernel
theorem dL_law_336 : decode cL_law 336 = .ok (.iaload, 1) := by decide +kernel
theorem dL_law_337 : decode cL_law 337 = .ok (.invokevirtual 44, 3) := by decide +kernel
theorem dL_law_340 : decode cL_law 340 = .ok (.aload_n 2, 1) := by decide +kernel
theorem dL_law_341 : decode cL_law 341 = .ok (.aload_n 0, 1) := by decide +kernel
theorem dL_law_342 : decode cL_law 342 = .ok (.iload_n 3, 1) := by decide +kernel
theorem dL_law_343 : decode cL_law 343 = .ok (.iconst 1, 1) := by decide +kernel
theorem dL_law_344 : decode cL_law 344 = .ok (.iadd, 1) := by decide +kernel
theorem dL_law_345 : decode cL_law 345 = .ok (.iaload, 1) := by decide +kernel
theorem dL_law_346 : decode cL_law 346 = .ok (.invokevirtual 47, 3) := by decide +kernel
theorem dL_law_349 : decode cL_law 349 = .ok (.if_icmp .eq 436, 3) := by decide +kernel
theorem dL_law_352 : decode cL_law 352 = .ok (.iconst 0, 1) := by decide +kernel
theorem dL_law_353 : decode cL_law 353 = .ok (.ireturn, 1) := by decide +kernel
theorem dL_law_354 : decode cL_law 354 = .ok (.aload_n 1, 1) := by decide +kernel
theorem dL_law_355 : decode cL_law 355 = .ok (.aload_n 0, 1) := by decide +kernel
theorem dL_law_356 : decode cL_law 356 = .ok (.iload_n 3, 1) := by decide +kernel
theorem dL_law_357 : decode cL_law 357 = .ok (.iconst 1, 1) := by decide +kernel
theorem dL_law_358 : decode cL_law 358 = .ok (.iadd, 1) := by decide +kernel
theorem dL_law_359 : decode cL_law 359 = .ok (.iaload, 1) := by decide +kernel
theorem dL_law_360 : decode cL_law 360 = .ok (.invokevirtual 48, 3) := by decide +kernel
theorem dL_law_363 : decode cL_law 363 = .ok (.aload_n 2, 1) := by decide +kernel
theorem dL_law_364 : decode cL_law 364 = .ok (.aload_n 0, 1) := by decide +kernel
theorem dL_law_365 : decode cL_law 365 = .ok (.iload_n 3, 1) := by decide +kernel
theorem dL_law_366 : decode cL_law 366 = .ok (.iconst 1, 1) := by decide +kernel
theorem dL_law_367 : decode cL_law 367 = .ok (.iadd, 1) := by decide +kernel
theorem dL_law_368 : decode cL_law 368 = .ok (.iaload, 1) := by decide +kernel
theorem dL_law_369 : decode cL_law 369 = .ok (.invokevirtual 51, 3) := by decide +kernel
theorem dL_law_372 : decode cL_law 372 = .ok (.if_icmp .eq 413, 3) := by decide +kernel
theorem dL_law_375 : decode cL_law 375 = .ok (.iconst 0, 1) := by decide +kernel
theorem dL_law_376 : decode cL_law 376 = .ok (.ireturn, 1) := by decide +kernel
theorem dL_law_377 : decode cL_law 377 = .ok (.aload_n 1, 1) := by decide +kernel
theorem dL_law_378 : decode cL_law 378 = .ok (.aload_n 0, 1) := by decide +kernel
theorem dL_law_379 : decode cL_law 379 = .ok (.iload_n 3, 1) := by decide +kernel
theorem dL_law_380 : decode cL_law 380 = .ok (.iconst 1, 1) := by decide +kernel
theorem dL_law_381 : decode cL_law 381 = .ok (.iadd, 1) := by decide +kernel
theorem dL_law_382 : decode cL_law 382 = .ok (.iaload, 1) := by decide +kernel
theorem dL_law_383 : decode cL_law 383 = .ok (.aload_n 0, 1) := by decide +kernel
theorem dL_law_384 : decode cL_law 384 = .ok (.iload_n 3, 1) := by decide +kernel
theorem dL_law_385 : decode cL_law 385 = .ok (.iconst 2, 1) := by decide +kernel
theorem dL_law_386 : decode cL_law 386 = .ok (.iadd, 1) := by decide +kernel
theorem dL_law_387 : decode cL_law 387 = .ok (.iaload, 1) := by decide +kernel
theorem dL_law_388 : decode cL_law 388 = .ok (.invokevirtual 52, 3) := by decide +kernel
theorem dL_law_391 : decode cL_law 391 = .ok (.aload_n 2, 1) := by decide +kernel
theorem dL_law_392 : decode cL_law 392 = .ok (.aload_n 0, 1) := by decide +kernel
theorem dL_law_393 : decode cL_law 393 = .ok (.iload_n 3, 1) := by decide +kernel
theorem dL_law_394 : decode cL_law 394 = .ok (.iconst 1, 1) := by decide +kernel
theorem dL_law_395 : decode cL_law 395 = .ok (.iadd, 1) := by decide +kernel
theorem dL_law_396 : decode cL_law 396 = .ok (.iaload, 1) := by decide +kernel
theorem dL_law_397 : decode cL_law 397 = .ok (.aload_n 0, 1) := by decide +kernel
theorem dL_law_398 : decode cL_law 398 = .ok (.iload_n 3, 1) := by decide +kernel
theorem dL_law_399 : decode cL_law 399 = .ok (.iconst 2, 1) := by decide +kernel
theorem dL_law_400 : decode cL_law 400 = .ok (.iadd, 1) := by decide +kernel
theorem dL_law_401 : decode cL_law 401 = .ok (.iaload, 1) := by decide +kernel
theorem dL_law_402 : decode cL_law 402 = .ok (.invokevirtual 55, 3) := by decide +kernel
theorem dL_law_405 : decode cL_law 405 = .ok (.if_icmp .eq 380, 3) := by decide +kernel
theorem dL_law_408 : decode cL_law 408 = .ok (.iconst 0, 1) := by decide +kernel
theorem dL_law_409 : decode cL_law 409 = .ok (.ireturn, 1) := by decide +kernel
theorem dL_law_410 : decode cL_law 410 = .ok (.aload_n 1, 1) := by decide +kernel
theorem dL_law_411 : decode cL_law 411 = .ok (.aload_n 0, 1) := by decide +kernel
theorem dL_law_412 : decode cL_law 412 = .ok (.iload_n 3, 1) := by decide +kernel
theorem dL_law_413 : decode cL_law 413 = .ok (.iconst 1, 1) := by decide +kernel
theorem dL_law_414 : decode cL_law 414 = .ok (.iadd, 1) := by decide +kernel
theorem dL_law_415 : decode cL_law 415 = .ok (.iaload, 1) := by decide +kernel
theorem dL_law_416 : decode cL_law 416 = .ok (.aload_n 0, 1) := by decide +kernel
theorem dL_law_417 : decode cL_law 417 = .ok (.iload_n 3, 1) := by decide +kernel
theorem dL_law_418 : decode cL_law 418 = .ok (.iconst 2, 1) := by decide +kernel
theorem dL_law_419 : decode cL_law 419 = .ok (.iadd, 1) := by decide +kernel
theorem dL_law_420 : decode cL_law 420 = .ok (.iaload, 1) := by decide +kernel
theorem dL_law_421 : decode cL_law 421 = .ok (.invokevirtual 56, 3) := by decide +kernel
theorem dL_law_424 : decode cL_law 424 = .ok (.aload_n 2, 1) := by decide +kernel
theorem dL_law_425 : decode cL_law 425 = .ok (.aload_n 0, 1) := by decide +kernel
theorem dL_law_426 : decode cL_law 426 = .ok (.iload_n 3, 1) := by decide +kernel
theorem dL_law_427 : decode cL_law 427 = .ok (.iconst 1, 1) := by decide +kernel
theorem dL_law_428 : decode cL_law 428 = .ok (.iadd, 1) := by decide +kernel
theorem dL_law_429 : decode cL_law 429 = .ok (.iaload, 1) := by decide +kernel
theorem dL_law_430 : decode cL_law 430 = .ok (.aload_n 0, 1) := by decide +kernel
theorem dL_law_431 : decode cL_law 431 = .ok (.iload_n 3, 1) := by decide +kernel
theorem dL_law_432 : decode cL_law 432 = .ok (.iconst 2, 1) := by decide +kernel
theorem dL_law_433 : decode cL_law 433 = .ok (.iadd, 1) := by decide +kernel
theorem dL_law_434 : decode cL_law 434 = .ok (.iaload, 1) := by decide +kernel
theorem dL_law_435 : decode cL_law 435 = .ok (.invokevirtual 59, 3) := by decide +kernel
theorem dL_law_438 : decode cL_law 438 = .ok (.if_icmp .eq 347, 3) := by decide +kernel
theorem dL_law_441 : decode cL_law 441 = .ok (.iconst 0, 1) := by decide +kernel
theorem dL_law_442 : decode cL_law 442 = .ok (.ireturn, 1) := by decide +kernel
theorem dL_law_443 : decode cL_law 443 = .ok (.aload_n 1, 1) := by decide +kernel
theorem dL_law_444 : decode cL_law 444 = .ok (.aload_n 0, 1) := by decide +kernel
theorem dL_law_445 : decode cL_law 445 = .ok (.iload_n 3, 1) := by decide +kernel
theorem dL_law_446 : decode cL_law 446 = .ok (.iconst 1, 1) := by decide +kernel
theorem dL_law_447 : decode cL_law 447 = .ok (.iadd, 1) := by decide +kernel
theorem dL_law_448 : decode cL_law 448 = .ok (.iaload, 1) := by decide +kernel
theorem dL_law_449 : decode cL_law 449 = .ok (.aload_n 0, 1) := by decide +kernel
theorem dL_law_450 : decode cL_law 450 = .ok (.iload_n 3, 1) := by decide +kernel
theorem dL_law_451 : decode cL_law 451 = .ok (.iconst 2, 1) := by decide +kernel
theorem dL_law_452 : decode cL_law 452 = .ok (.iadd, 1) := by decide +kernel
theorem dL_law_453 : decode cL_law 453 = .ok (.iaload, 1) := by decide +kernel
theorem dL_law_454 : decode cL_law 454 = .ok (.invokevirtual 60, 3) := by decide +kernel
theorem dL_law_457 : decode cL_law 457 = .ok (.aload_n 2, 1) := by decide +kernel
theorem dL_law_458 : decode cL_law 458 = .ok (.aload_n 0, 1) := by decide +kernel
theorem dL_law_459 : decode cL_law 459 = .ok (.iload_n 3, 1) := by decide +kernel
theorem dL_law_460 : decode cL_law 460 = .ok (.iconst 1, 1) := by decide +kernel
theorem dL_law_461 : decode cL_law 461 = .ok (.iadd, 1) := by decide +kernel
theorem dL_law_462 : decode cL_law 462 = .ok (.iaload, 1) := by decide +kernel
theorem dL_law_463 : decode cL_law 463 = .ok (.aload_n 0, 1) := by decide +kernel
theorem dL_law_464 : decode cL_law 464 = .ok (.iload_n 3, 1) := by decide +kernel
theorem dL_law_465 : decode cL_law 465 = .ok (.iconst 2, 1) := by decide +kernel
theorem dL_law_466 : decode cL_law 466 = .ok (.iadd, 1) := by decide +kernel
theorem dL_law_467 : decode cL_law 467 = .ok (.iaload, 1) := by decide +kernel
theorem dL_law_468 : decode cL_law 468 = .ok (.invokevirtual 63, 3) := by decide +kernel
theorem dL_law_471 : decode cL_law 471 = .ok (.if_icmp .eq 314, 3) := by decide +kernel
theorem dL_law_474 : decode cL_law 474 = .ok (.iconst 0, 1) := by decide +kernel
theorem dL_law_475 : decode cL_law 475 = .ok (.ireturn, 1) := by decide +kernel
theorem dL_law_476 : decode cL_law 476 = .ok (.aload_n 1, 1) := by decide +kernel
theorem dL_law_477 : decode cL_law 477 = .ok (.invokevirtual 64, 3) := by decide +kernel
theorem dL_law_480 : decode cL_law 480 = .ok (.aload_n 2, 1) := by decide +kernel
theorem dL_law_481 : decode cL_law 481 = .ok (.invokevirtual 67, 3) := by decide +kernel
theorem dL_law_484 : decode cL_law 484 = .ok (.if_icmp .eq 301, 3) := by decide +kernel
theorem dL_law_487 : decode cL_law 487 = .ok (.iconst 0, 1) := by decide +kernel
theorem dL_law_488 : decode cL_law 488 = .ok (.ireturn, 1) := by decide +kernel
theorem dL_law_489 : decode cL_law 489 = .ok (.aload_n 1, 1) := by decide +kernel
theorem dL_law_490 : decode cL_law 490 = .ok (.invokevirtual 68, 3) := by decide +kernel
theorem dL_law_493 : decode cL_law 493 = .ok (.aload_n 2, 1) := by decide +kernel
theorem dL_law_494 : decode cL_law 494 = .ok (.invokevirtual 71, 3) := by decide +kernel
theorem dL_law_497 : decode cL_law 497 = .ok (.if_icmp .eq 288, 3) := by decide +kernel
theorem dL_law_500 : decode cL_law 500 = .ok (.iconst 0, 1) := by decide +kernel
theorem dL_law_501 : decode cL_law 501 = .ok (.ireturn, 1) := by decide +kernel
theorem dL_law_502 : decode cL_law 502 = .ok (.aload_n 1, 1) := by decide +kernel
theorem dL_law_503 : decode cL_law 503 = .ok (.aload_n 0, 1) := by decide +kernel
theorem dL_law_504 : decode cL_law 504 = .ok (.iload_n 3, 1) := by decide +kernel
theorem dL_law_505 : decode cL_law 505 = .ok (.iconst 1, 1) := by decide +kernel
theorem dL_law_506 : decode cL_law 506 = .ok (.iadd, 1) := by decide +kernel
theorem dL_law_507 : decode cL_law 507 = .ok (.iaload, 1) := by decide +kernel
theorem dL_law_508 : decode cL_law 508 = .ok (.invokevirtual 72, 3) := by decide +kernel
theorem dL_law_511 : decode cL_law 511 = .ok (.aload_n 2, 1) := by decide +kernel
theorem dL_law_512 : decode cL_law 512 = .ok (.aload_n 0, 1) := by decide +kernel
theorem dL_law_513 : decode cL_law 513 = .ok (.iload_n 3, 1) := by decide +kernel
theorem dL_law_514 : decode cL_law 514 = .ok (.iconst 1, 1) := by decide +kernel
theorem dL_law_515 : decode cL_law 515 = .ok (.iadd, 1) := by decide +kernel
theorem dL_law_516 : decode cL_law 516 = .ok (.iaload, 1) := by decide +kernel
theorem dL_law_517 : decode cL_law 517 = .ok (.invokevirtual 75, 3) := by decide +kernel
theorem dL_law_520 : decode cL_law 520 = .ok (.if_icmp .eq 265, 3) := by decide +kernel
theorem dL_law_523 : decode cL_law 523 = .ok (.iconst 0, 1) := by decide +kernel
theorem dL_law_524 : decode cL_law 524 = .ok (.ireturn, 1) := by decide +kernel
theorem dL_law_525 : decode cL_law 525 = .ok (.aload_n 1, 1) := by decide +kernel
theorem dL_law_526 : decode cL_law 526 = .ok (.aload_n 0, 1) := by decide +kernel
theorem dL_law_527 : decode cL_law 527 = .ok (.iload_n 3, 1) := by decide +kernel
theorem dL_law_528 : decode cL_law 528 = .ok (.iconst 1, 1) := by decide +kernel
theorem dL_law_529 : decode cL_law 529 = .ok (.iadd, 1) := by decide +kernel
theorem dL_law_530 : decode cL_law 530 = .ok (.iaload, 1) := by decide +kernel
theorem dL_law_531 : decode cL_law 531 = .ok (.invokevirtual 76, 3) := by decide +kernel
theorem dL_law_534 : decode cL_law 534 = .ok (.aload_n 2, 1) := by decide +kernel
theorem dL_law_535 : decode cL_law 535 = .ok (.aload_n 0, 1) := by decide +kernel
theorem dL_law_536 : decode cL_law 536 = .ok (.iload_n 3, 1) := by decide +kernel
theorem dL_law_537 : decode cL_law 537 = .ok (.iconst 1, 1) := by decide +kernel
theorem dL_law_538 : decode cL_law 538 = .ok (.iadd, 1) := by decide +kernel
theorem dL_law_539 : decode cL_law 539 = .ok (.iaload, 1) := by decide +kernel
theorem dL_law_540 : decode cL_law 540 = .ok (.invokevirtual 79, 3) := by decide +kernel
theorem dL_law_543 : decode cL_law 543 = .ok (.if_icmp .eq 242, 3) := by decide +kernel
theorem dL_law_546 : decode cL_law 546 = .ok (.iconst 0, 1) := by decide +kernel
theorem dL_law_547 : decode cL_law 547 = .ok (.ireturn, 1) := by decide +kernel
theorem dL_law_548 : decode cL_law 548 = .ok (.aload_n 1, 1) := by decide +kernel
theorem dL_law_549 : decode cL_law 549 = .ok (.aload_n 0, 1) := by decide +kernel
theorem dL_law_550 : decode cL_law 550 = .ok (.iload_n 3, 1) := by decide +kernel
theorem dL_law_551 : decode cL_law 551 = .ok (.iconst 1, 1) := by decide +kernel
theorem dL_law_552 : decode cL_law 552 = .ok (.iadd, 1) := by decide +kernel
theorem dL_law_553 : decode cL_law 553 = .ok (.iaload, 1) := by decide +kernel
theorem dL_law_554 : decode cL_law 554 = .ok (.invokevirtual 80, 3) := by decide +kernel
theorem dL_law_557 : decode cL_law 557 = .ok (.aload_n 2, 1) := by decide +kernel
theorem dL_law_558 : decode cL_law 558 = .ok (.aload_n 0, 1) := by decide +kernel
theorem dL_law_559 : decode cL_law 559 = .ok (.iload_n 3, 1) := by decide +kernel
theorem dL_law_560 : decode cL_law 560 = .ok (.iconst 1, 1) := by decide +kernel
theorem dL_law_561 : decode cL_law 561 = .ok (.iadd, 1) := by decide +kernel
theorem dL_law_562 : decode cL_law 562 = .ok (.iaload, 1) := by decide +kernel
theorem dL_law_563 : decode cL_law 563 = .ok (.invokevirtual 83, 3) := by decide +kernel
theorem dL_law_566 : decode cL_law 566 = .ok (.if_icmp .eq 219, 3) := by decide +kernel
theorem dL_law_569 : decode cL_law 569 = .ok (.iconst 0, 1) := by decide +kernel
theorem dL_law_570 : decode cL_law 570 = .ok (.ireturn, 1) := by decide +kernel
theorem dL_law_571 : decode cL_law 571 = .ok (.aload_n 1, 1) := by decide +kernel
theorem dL_law_572 : decode cL_law 572 = .ok (.aload_n 0, 1) := by decide +kernel
theorem dL_law_573 : decode cL_law 573 = .ok (.iload_n 3, 1) := by decide +kernel
theorem dL_law_574 : decode cL_law 574 = .ok (.iconst 1, 1) := by decide +kernel
theorem dL_law_575 : decode cL_law 575 = .ok (.iadd, 1) := by decide +kernel
theorem dL_law_576 : decode cL_law 576 = .ok (.iaload, 1) := by decide +kernel
theorem dL_law_577 : decode cL_law 577 = .ok (.invokevirtual 84, 3) := by decide +kernel
theorem dL_law_580 : decode cL_law 580 = .ok (.aload_n 2, 1) := by decide +kernel
theorem dL_law_581 : decode cL_law 581 = .ok (.aload_n 0, 1) := by decide +kernel
theorem dL_law_582 : decode cL_law 582 = .ok (.iload_n 3, 1) := by decide +kernel
theorem dL_law_583 : decode cL_law 583 = .ok (.iconst 1, 1) := by decide +kernel
theorem dL_law_584 : decode cL_law 584 = .ok (.iadd, 1) := by decide +kernel
theorem dL_law_585 : decode cL_law 585 = .ok (.iaload, 1) := by decide +kernel
theorem dL_law_586 : decode cL_law 586 = .ok (.invokevirtual 87, 3) := by decide +kernel
theorem dL_law_589 : decode cL_law 589 = .ok (.if_icmp .eq 196, 3) := by decide +kernel
theorem dL_law_592 : decode cL_law 592 = .ok (.iconst 0, 1) := by decide +kernel
theorem dL_law_593 : decode cL_law 593 = .ok (.ireturn, 1) := by decide +kernel
theorem dL_law_594 : decode cL_law 594 = .ok (.aload_n 1, 1) := by decide +kernel
theorem dL_law_595 : decode cL_law 595 = .ok (.aload_n 0, 1) := by decide +kernel
theorem dL_law_596 : decode cL_law 596 = .ok (.iload_n 3, 1) := by decide +kernel
theorem dL_law_597 : decode cL_law 597 = .ok (.iconst 1, 1) := by decide +kernel
theorem dL_law_598 : decode cL_law 598 = .ok (.iadd, 1) := by decide +kernel
theorem dL_law_599 : decode cL_law 599 = .ok (.iaload, 1) := by decide +kernel
theorem dL_law_600 : decode cL_law 600 = .ok (.invokevirtual 88, 3) := by decide +kernel
theorem dL_law_603 : decode cL_law 603 = .ok (.aload_n 2, 1) := by decide +kernel
theorem dL_law_604 : decode cL_law 604 = .ok (.aload_n 0, 1) := by decide +kernel
theorem dL_law_605 : decode cL_law 605 = .ok (.iload_n 3, 1) := by decide +kernel
theorem dL_law_606 : decode cL_law 606 = .ok (.iconst 1, 1) := by decide +kernel
theorem dL_law_607 : decode cL_law 607 = .ok (.iadd, 1) := by decide +kernel
theorem dL_law_608 : decode cL_law 608 = .ok (.iaload, 1) := by decide +kernel
theorem dL_law_609 : decode cL_law 609 = .ok (.invokevirtual 91, 3) := by decide +kernel
theorem dL_law_612 : decode cL_law 612 = .ok (.if_icmp .eq 173, 3) := by decide +kernel
theorem dL_law_615 : decode cL_law 615 = .ok (.iconst 0, 1) := by decide +kernel
theorem dL_law_616 : decode cL_law 616 = .ok (.ireturn, 1) := by decide +kernel
theorem dL_law_617 : decode cL_law 617 = .ok (.aload_n 1, 1) := by decide +kernel
theorem dL_law_618 : decode cL_law 618 = .ok (.aload_n 0, 1) := by decide +kernel
theorem dL_law_619 : decode cL_law 619 = .ok (.iload_n 3, 1) := by decide +kernel
theorem dL_law_620 : decode cL_law 620 = .ok (.iconst 1, 1) := by decide +kernel
theorem dL_law_621 : decode cL_law 621 = .ok (.iadd, 1) := by decide +kernel
theorem dL_law_622 : decode cL_law 622 = .ok (.iaload, 1) := by decide +kernel
theorem dL_law_623 : decode cL_law 623 = .ok (.invokevirtual 92, 3) := by decide +kernel
theorem dL_law_626 : decode cL_law 626 = .ok (.aload_n 2, 1) := by decide +kernel
theorem dL_law_627 : decode cL_law 627 = .ok (.aload_n 0, 1) := by decide +kernel
theorem dL_law_628 : decode cL_law 628 = .ok (.iload_n 3, 1) := by decide +kernel
theorem dL_law_629 : decode cL_law 629 = .ok (.iconst 1, 1) := by decide +kernel
theorem dL_law_630 : decode cL_law 630 = .ok (.iadd, 1) := by decide +kernel
theorem dL_law_631 : decode cL_law 631 = .ok (.iaload, 1) := by decide +kernel
theorem dL_law_632 : decode cL_law 632 = .ok (.invokevirtual 95, 3) := by decide +kernel
theorem dL_law_635 : decode cL_law 635 = .ok (.if_icmp .eq 150, 3) := by decide +kernel
theorem dL_law_638 : decode cL_law 638 = .ok (.iconst 0, 1) := by decide +kernel
theorem dL_law_639 : decode cL_law 639 = .ok (.ireturn, 1) := by decide +kernel
theorem dL_law_640 : decode cL_law 640 = .ok (.aload_n 1, 1) := by decide +kernel
theorem dL_law_641 : decode cL_law 641 = .ok (.aload_n 0, 1) := by decide +kernel
theorem dL_law_642 : decode cL_law 642 = .ok (.iload_n 3, 1) := by decide +kernel
theorem dL_law_643 : decode cL_law 643 = .ok (.iconst 1, 1) := by decide +kernel
theorem dL_law_644 : decode cL_law 644 = .ok (.iadd, 1) := by decide +kernel
theorem dL_law_645 : decode cL_law 645 = .ok (.iaload, 1) := by decide +kernel
theorem dL_law_646 : decode cL_law 646 = .ok (.invokevirtual 96, 3) := by decide +kernel
theorem dL_law_649 : decode cL_law 649 = .ok (.aload_n 2, 1) := by decide +kernel
theorem dL_law_650 : decode cL_law 650 = .ok (.aload_n 0, 1) := by decide +kernel
theorem dL_law_651 : decode cL_law 651 = .ok (.iload_n 3, 1) := by decide +kernel
theorem dL_law_652 : decode cL_law 652 = .ok (.iconst 1, 1) := by decide +kernel
theorem dL_law_653 : decode cL_law 653 = .ok (.iadd, 1) := by decide +kernel
theorem dL_law_654 : decode cL_law 654 = .ok (.iaload, 1) := by decide +kernel
theorem dL_law_655 : decode cL_law 655 = .ok (.invokevirtual 99, 3) := by decide +kernel
theorem dL_law_658 : decode cL_law 658 = .ok (.if_icmp .eq 127, 3) := by decide +kernel
theorem dL_law_661 : decode cL_law 661 = .ok (.iconst 0, 1) := by decide +kernel
theorem dL_law_662 : decode cL_law 662 = .ok (.ireturn, 1) := by decide +kernel
theorem dL_law_663 : decode cL_law 663 = .ok (.aload_n 1, 1) := by decide +kernel
theorem dL_law_664 : decode cL_law 664 = .ok (.aload_n 0, 1) := by decide +kernel
theorem dL_law_665 : decode cL_law 665 = .ok (.iload_n 3, 1) := by decide +kernel
theorem dL_law_666 : decode cL_law 666 = .ok (.iconst 1, 1) := by decide +kernel
theorem dL_law_667 : decode cL_law 667 = .ok (.iadd, 1) := by decide +kernel
theorem dL_law_668 : decode cL_law 668 = .ok (.iaload, 1) := by decide +kernel
theorem dL_law_669 : decode cL_law 669 = .ok (.invokevirtual 100, 3) := by decide +kernel
theorem dL_law_672 : decode cL_law 672 = .ok (.aload_n 2, 1) := by decide +kernel
theorem dL_law_673 : decode cL_law 673 = .ok (.aload_n 0, 1) := by decide +kernel
theorem dL_law_674 : decode cL_law 674 = .ok (.iload_n 3, 1) := by decide +kernel
theorem dL_law_675 : decode cL_law 675 = .ok (.iconst 1, 1) := by decide +kernel
theorem dL_law_676 : decode cL_law 676 = .ok (.iadd, 1) := by decide +kernel
theorem dL_law_677 : decode cL_law 677 = .ok (.iaload, 1) := by decide +kernel
theorem dL_law_678 : decode cL_law 678 = .ok (.invokevirtual 103, 3) := by decide +kernel
theorem dL_law_681 : decode cL_law 681 = .ok (.if_icmp .eq 104, 3) := by decide +kernel
theorem dL_law_684 : decode cL_law 684 = .ok (.iconst 0, 1) := by decide +kernel
theorem dL_law_685 : decode cL_law 685 = .ok (.ireturn, 1) := by decide +kernel
theorem dL_law_686 : decode cL_law 686 = .ok (.aload_n 1, 1) := by decide +kernel
theorem dL_law_687 : decode cL_law 687 = .ok (.invokevirtual 104, 3) := by decide +kernel
theorem dL_law_690 : decode cL_law 690 = .ok (.aload_n 2, 1) := by decide +kernel
theorem dL_law_691 : decode cL_law 691 = .ok (.invokevirtual 107, 3) := by decide +kernel
theorem dL_law_694 : decode cL_law 694 = .ok (.if_icmp .eq 91, 3) := by decide +kernel
theorem dL_law_697 : decode cL_law 697 = .ok (.iconst 0, 1) := by decide +kernel
theorem dL_law_698 : decode cL_law 698 = .ok (.ireturn, 1) := by decide +kernel
theorem dL_law_699 : decode cL_law 699 = .ok (.aload_n 1, 1) := by decide +kernel
theorem dL_law_700 : decode cL_law 700 = .ok (.invokevirtual 108, 3) := by decide +kernel
theorem dL_law_703 : decode cL_law 703 = .ok (.aload_n 2, 1) := by decide +kernel
theorem dL_law_704 : decode cL_law 704 = .ok (.invokevirtual 111, 3) := by decide +kernel
theorem dL_law_707 : decode cL_law 707 = .ok (.if_icmp .eq 78, 3) := by decide +kernel
theorem dL_law_710 : decode cL_law 710 = .ok (.iconst 0, 1) := by decide +kernel
theorem dL_law_711 : decode cL_law 711 = .ok (.ireturn, 1) := by decide +kernel
theorem dL_law_712 : decode cL_law 712 = .ok (.aload_n 1, 1) := by decide +kernel
theorem dL_law_713 : decode cL_law 713 = .ok (.aload_n 0, 1) := by decide +kernel
theorem dL_law_714 : decode cL_law 714 = .ok (.iload_n 3, 1) := by decide +kernel
theorem dL_law_715 : decode cL_law 715 = .ok (.iconst 1, 1) := by decide +kernel
theorem dL_law_716 : decode cL_law 716 = .ok (.iadd, 1) := by decide +kernel
theorem dL_law_717 : decode cL_law 717 = .ok (.iaload, 1) := by decide +kernel
theorem dL_law_718 : decode cL_law 718 = .ok (.invokevirtual 112, 3) := by decide +kernel
theorem dL_law_721 : decode cL_law 721 = .ok (.aload_n 2, 1) := by decide +kernel
theorem dL_law_722 : decode cL_law 722 = .ok (.aload_n 0, 1) := by decide +kernel
theorem dL_law_723 : decode cL_law 723 = .ok (.iload_n 3, 1) := by decide +kernel
theorem dL_law_724 : decode cL_law 724 = .ok (.iconst 1, 1) := by decide +kernel
theorem dL_law_725 : decode cL_law 725 = .ok (.iadd, 1) := by decide +kernel
theorem dL_law_726 : decode cL_law 726 = .ok (.iaload, 1) := by decide +kernel
theorem dL_law_727 : decode cL_law 727 = .ok (.invokevirtual 115, 3) := by decide +kernel
theorem dL_law_730 : decode cL_law 730 = .ok (.if_icmp .eq 55, 3) := by decide +kernel
theorem dL_law_733 : decode cL_law 733 = .ok (.iconst 0, 1) := by decide +kernel
theorem dL_law_734 : decode cL_law 734 = .ok (.ireturn, 1) := by decide +kernel
theorem dL_law_735 : decode cL_law 735 = .ok (.aload_n 1, 1) := by decide +kernel
theorem dL_law_736 : decode cL_law 736 = .ok (.invokevirtual 116, 3) := by decide +kernel
theorem dL_law_739 : decode cL_law 739 = .ok (.aload_n 2, 1) := by decide +kernel
theorem dL_law_740 : decode cL_law 740 = .ok (.invokevirtual 119, 3) := by decide +kernel
theorem dL_law_743 : decode cL_law 743 = .ok (.if_icmp .eq 42, 3) := by decide +kernel
theorem dL_law_746 : decode cL_law 746 = .ok (.iconst 0, 1) := by decide +kernel
theorem dL_law_747 : decode cL_law 747 = .ok (.ireturn, 1) := by decide +kernel
theorem dL_law_748 : decode cL_law 748 = .ok (.aload_n 1, 1) := by decide +kernel
theorem dL_law_749 : decode cL_law 749 = .ok (.aload_n 0, 1) := by decide +kernel
theorem dL_law_750 : decode cL_law 750 = .ok (.iload_n 3, 1) := by decide +kernel
theorem dL_law_751 : decode cL_law 751 = .ok (.iconst 1, 1) := by decide +kernel
theorem dL_law_752 : decode cL_law 752 = .ok (.iadd, 1) := by decide +kernel
theorem dL_law_753 : decode cL_law 753 = .ok (.iaload, 1) := by decide +kernel
theorem dL_law_754 : decode cL_law 754 = .ok (.invokevirtual 120, 3) := by decide +kernel
theorem dL_law_757 : decode cL_law 757 = .ok (.aload_n 2, 1) := by decide +kernel
theorem dL_law_758 : decode cL_law 758 = .ok (.aload_n 0, 1) := by decide +kernel
theorem dL_law_759 : decode cL_law 759 = .ok (.iload_n 3, 1) := by decide +kernel
theorem dL_law_760 : decode cL_law 760 = .ok (.iconst 1, 1) := by decide +kernel
theorem dL_law_761 : decode cL_law 761 = .ok (.iadd, 1) := by decide +kernel
theorem dL_law_762 : decode cL_law 762 = .ok (.iaload, 1) := by decide +kernel
theorem dL_law_763 : decode cL_law 763 = .ok (.invokevirtual 123, 3) := by decide +kernel
theorem dL_law_766 : decode cL_law 766 = .ok (.if_icmp .eq 19, 3) := by decide +kernel
theorem dL_law_769 : decode cL_law 769 = .ok (.iconst 0, 1) := by decide +kernel
theorem dL_law_770 : decode cL_law 770 = .ok (.ireturn, 1) := by decide +kernel
theorem dL_law_771 : decode cL_law 771 = .ok (.aload_n 1, 1) := by decide +kernel
theorem dL_law_772 : decode cL_law 772 = .ok (.invokevirtual 124, 3) := by decide +kernel
theorem dL_law_775 : decode cL_law 775 = .ok (.aload_n 2, 1) := by decide +kernel
theorem dL_law_776 : decode cL_law 776 = .ok (.invokevirtual 128, 3) := by decide +kernel
theorem dL_law_779 : decode cL_law 779 = .ok (.lcmp, 1) := by decide +kernel
theorem dL_law_780 : decode cL_law 780 = .ok (.ifCond .eq 5, 3) := by decide +kernel
theorem dL_law_783 : decode cL_law 783 = .ok (.iconst 0, 1) := by decide +kernel
theorem dL_law_784 : decode cL_law 784 = .ok (.ireturn, 1) := by decide +kernel
theorem dL_law_785 : decode cL_law 785 = .ok (.iinc 3 3, 3) := by decide +kernel
theorem dL_law_788 : decode cL_law 788 = .ok (.goto (-770), 3) := by decide +kernel
theorem dL_law_791 : decode cL_law 791 = .ok (.iconst 1, 1) := by decide +kernel
theorem dL_law_792 : decode cL_law 792 = .ok (.ireturn, 1) := by decide +kernel
end
section
-- numbers: every int of the machine is iz of an integer, every long lz of one
abbrev iz (a : Int) : Int32 := Int32.ofInt a
abbrev lz (a : Int) : Int64 := Int64.ofInt a
abbrev inR (a : Int) : Prop := -2147483648 ≤ a ∧ a ≤ 2147483647
theorem iz_toInt {a : Int} (h : inR a) : (iz a).toInt = a := Int32.toInt_ofInt_of_le (by have := h.1; omega) (by have := h.2; omega)
theorem iz_lt {a b : Int} (ha : inR a) (hb : inR b) : iz a < iz b ↔ a < b := by rw [Int32.lt_iff_toInt_lt, iz_toInt ha, iz_toInt hb]
theorem iz_le {a b : Int} (ha : inR a) (hb : inR b) : iz a ≤ iz b ↔ a ≤ b := by rw [Int32.le_iff_toInt_le, iz_toInt ha, iz_toInt hb]
theorem iz_eq {a b : Int} (ha : inR a) (hb : inR b) : iz a = iz b ↔ a = b := by rw [← Int32.toInt_inj, iz_toInt ha, iz_toInt hb]
theorem iz_cl {i : Int} (h0 : 0 ≤ i) (h1 : i < 2147483648) : (iz i).toNatClampNeg = i.toNat := Int32.toNatClampNeg_ofInt_of_le (by omega) (by omega)
theorem iz_in {i : Int} {n : Nat} (h0 : 0 ≤ i) (h1 : i < (n : Int)) (hn : n < 2147483648) : vp_in (iz i) n := by
  intro h
  rcases h with h | h
  · have := (iz_lt (a := i) (b := 0) ⟨by omega, by omega⟩ ⟨by decide, by decide⟩).mp h
    omega
  · rw [iz_cl h0 (by omega)] at h
    omega
theorem iz_rem {a b : Int} (h0 : 0 ≤ a) (h1 : a ≤ 2147483647) (h2 : 0 < b) (h3 : b ≤ 2147483647) : iz a - iz a / iz b * iz b = iz (a % b) := by
  obtain ⟨x, rfl⟩ := Int.eq_ofNat_of_zero_le h0
  obtain ⟨y, rfl⟩ := Int.eq_ofNat_of_zero_le (Int.le_of_lt h2)
  have e1 : iz (x : Int) = nI x := Int32.ofInt_eq_ofNat
  have e2 : iz (y : Int) = nI y := Int32.ofInt_eq_ofNat
  have e3 : iz ((x : Int) % (y : Int)) = nI (x % y) := by rw [← Int.natCast_emod]; exact Int32.ofInt_eq_ofNat
  rw [e1, e2, e3]
  exact pk_rem (by omega) (by omega) (by omega)
theorem iz_l {a : Int} (h : inR a) : (iz a).toInt64 = lz a := by rw [← Int64.ofInt_int32ToInt, iz_toInt h]
theorem iz_i (x : Int32) : ∃ a : Int, x = iz a ∧ inR a := ⟨x.toInt, (Int32.ofInt_toInt x).symm, by
  have h1 := x.le_toInt
  have h2 := x.toInt_lt
  exact ⟨by omega, by omega⟩⟩
-- the state: what the ints, by cell and place, are
abbrev St : Type := Nat → Int → Int
def ui (f : Int → Int) (i v : Int) : Int → Int := fun j => if j = i then v else f j
def ur (σ : St) (k : Nat) (f : Int → Int) : St := fun q => if q = k then f else σ q
def up (σ : St) (k : Nat) (i v : Int) : St := ur σ k (ui (σ k) i v)
theorem ur_s (σ : St) (k : Nat) (f : Int → Int) : ur σ k f k = f := by simp [ur]
theorem ur_n (σ : St) {k q : Nat} (f : Int → Int) (h : q ≠ k) : ur σ k f q = σ q := by simp [ur, h]
theorem up_s (σ : St) (k : Nat) (i v : Int) : up σ k i v k = ui (σ k) i v := ur_s _ _ _
theorem up_n (σ : St) {k q : Nat} (i v : Int) (h : q ≠ k) : up σ k i v q = σ q := ur_n _ _ h
theorem ui_s (f : Int → Int) (i v : Int) : ui f i v i = v := by simp [ui]
theorem ui_n (f : Int → Int) {i j : Int} (v : Int) (h : j ≠ i) : ui f i v j = f j := by simp [ui, h]
-- shapes of cells: (0, n, _) an int array of n; (1, ci, codes) an object of class ci; (2, n, codes) an array of n State references. Codes: 0 int, 1 long, 2 null, r + 3 the cell r
abbrev Sh : Type := Nat × Nat × List Nat
abbrev GW : Type := va_G × ClassId × ClassId × (Nat → Nat)
abbrev gad (w : GW) : Nat → Nat := w.2.2.2
def gV (w : GW) (f : Int → Int) (i : Int) (c : Nat) : Value := match c with
  | 0 => .int (iz (f i))
  | 1 => .long (lz (f i))
  | 2 => .null
  | r + 3 => .ref (gad w r)
def gF (w : GW) (f : Int → Int) : Int → List Nat → List Value
  | _, [] => []
  | i, c :: cs => gV w f i c :: gF w f (i + 1) cs
def gO (w : GW) (c : Nat) : Option Nat := match c with
  | r + 3 => some (gad w r)
  | _ => none
def gE (w : GW) (f : Int → Int) (sh : Sh) : va_E := match sh.1 with
  | 0 => .inl (w.2.1, sh.2.1, .inl (fun j : Nat => iz (f (j : Int))))
  | 1 => .inr (sh.2.1, gF w f 0 sh.2.2)
  | _ => .inl (w.2.2.1, sh.2.1, .inr (.inr (.inr (.inr (fun j => gO w (sh.2.2.getD j 2))))))
theorem gF_at (w : GW) (f : Int → Int) (cs : List Nat) : ∀ (i : Int) (j : Nat), (gF w f i cs)[j]? = (cs[j]?).map (fun c => gV w f (i + j) c) := by
  induction cs with
  | nil => intro i j; simp [gF]
  | cons c cs ih =>
    intro i j
    cases j with
    | zero => simp [gF]
    | succ j =>
      simp only [gF, List.getElem?_cons_succ, ih]
      congr 1
      funext c
      congr 1
      omega
theorem gF_len (w : GW) (f : Int → Int) (cs : List Nat) : ∀ (i : Int), (gF w f i cs).length = cs.length := by
  induction cs with
  | nil => intro i; simp [gF]
  | cons c cs ih => intro i; simp [gF, ih]
theorem gV_ui (w : GW) (f : Int → Int) {i j : Int} (v : Int) (c : Nat) (h : j ≠ i) : gV w (ui f i v) j c = gV w f j c := by
  unfold gV
  rw [ui_n f v h]
theorem gF_set (w : GW) (f : Int → Int) (cs : List Nat) (j : Nat) (v : Int) (x : Value) (c : Nat) (hc : cs[j]? = some c) (hx : gV w (ui f j v) j c = x) : (gF w f 0 cs).set j x = gF w (ui f j v) 0 cs := by
  apply List.ext_getElem?
  intro q
  by_cases hq : q = j
  · subst hq
    have hl : q < (gF w f 0 cs).length := by rw [gF_len]; exact (List.getElem?_eq_some_iff.mp hc).1
    rw [List.getElem?_set_self hl, gF_at, hc]
    simp only [Option.map_some, Int.zero_add]
    rw [hx]
  · rw [List.getElem?_set_ne (Ne.symm hq), gF_at, gF_at]
    congr 1
    funext c
    rw [gV_ui w f v c (by omega)]
-- the world: the cells of a list of shapes
def gW (w : GW) (SL : List Sh) (σ : St) : va_W := (List.range SL.length).map (fun k => (gad w k, gE w (σ k) (SL.getD k (0, 0, []))))
theorem gW_len (w : GW) (SL : List Sh) (σ : St) : (gW w SL σ).length = SL.length := by simp [gW]
theorem gW_at {w : GW} {SL : List Sh} {σ : St} {k : Nat} {sh : Sh} (h : SL[k]? = some sh) : (gW w SL σ)[k]? = some (gad w k, gE w (σ k) sh) := by
  have hl := (List.getElem?_eq_some_iff.mp h).1
  have : SL.getD k (0, 0, []) = sh := by rw [List.getD_eq_getElem?_getD, h]; rfl
  have h2 : (SL[k]?).getD (0, 0, []) = sh := by rw [h]; rfl
  simp [gW, List.getElem?_map, List.getElem?_range hl, h2]
theorem gW_ad {w : GW} {SL : List Sh} {σ : St} {k : Nat} {q : Nat × va_E} (h : (gW w SL σ)[k]? = some q) : k < SL.length ∧ q.1 = gad w k := by
  have hl := (List.getElem?_eq_some_iff.mp h).1
  rw [gW_len] at hl
  refine ⟨hl, ?_⟩
  simp [gW, List.getElem?_map, List.getElem?_range hl] at h
  rw [← h]
theorem gW_set {w : GW} {SL : List Sh} {σ : St} {k : Nat} {sh : Sh} (h : SL[k]? = some sh) (f : Int → Int) (e : va_E) (he : e = gE w f sh) : (gW w SL σ).set k (gad w k, e) = gW w SL (ur σ k f) := by
  subst he
  have hl := (List.getElem?_eq_some_iff.mp h).1
  apply List.ext_getElem?
  intro q
  by_cases hq : q = k
  · subst hq
    rw [List.getElem?_set_self (by rw [gW_len]; exact hl), gW_at (w := w) (σ := ur σ q f) h, ur_s]
  · rw [List.getElem?_set_ne (Ne.symm hq)]
    by_cases hl2 : q < SL.length
    · obtain ⟨sh2, h2⟩ : ∃ z, SL[q]? = some z := ⟨_, List.getElem?_eq_getElem hl2⟩
      rw [gW_at (w := w) (σ := σ) h2, gW_at (w := w) (σ := ur σ k f) h2, ur_n σ f hq]
    · rw [List.getElem?_eq_none (by rw [gW_len]; omega), List.getElem?_eq_none (by rw [gW_len]; omega)]
/-- the cells that a method may change: the world's, and new ones -/
def gA (w : GW) (n sz : Nat) : Nat → Prop := fun q => (∃ k, k < n ∧ q = gad w k) ∨ sz ≤ q
abbrev gT (w : GW) : List (ClassId × FieldType) := [(w.2.1, .int), (w.2.2.1, .object "IslandGrammar$State")]
def gS (w : GW) (SL : List Sh) (σ : St) (A : Nat → Prop) (s : State) (H0 H : Heap) (locs : List Loc) : Prop :=
  va_K w.1 vwCl (gT w) s ∧ va_P w.1 vwCl (gW w SL σ) H ∧ va_D A (gW w SL σ) ∧ va_S A H0 H locs
theorem gD_eq {w : GW} {SL : List Sh} {σ σ' : St} {A : Nat → Prop} (h : va_D A (gW w SL σ)) : va_D A (gW w SL σ') := by
  have key : ∀ (k : Nat) (q : Nat × va_E), (gW w SL σ')[k]? = some q → ∃ q0 : Nat × va_E, (gW w SL σ)[k]? = some q0 ∧ q0.1 = q.1 := by
    intro k q hk
    obtain ⟨h1, h2⟩ := gW_ad hk
    refine ⟨_, gW_at (List.getElem?_eq_getElem h1), h2.symm⟩
  refine ⟨fun i j p q hi hj hpq => ?_, fun k q hk => ?_⟩
  · obtain ⟨p0, h1, h2⟩ := key i p hi
    obtain ⟨q0, h3, h4⟩ := key j q hj
    exact h.1 i j p0 q0 h1 h3 (by rw [h2, h4, hpq])
  · obtain ⟨q0, h1, h2⟩ := key k q hk
    rw [← h2]
    exact h.2 k q0 h1
theorem gA_of {w : GW} {SL : List Sh} {σ : St} {A : Nat → Prop} {H0 H : Heap} {locs : List Loc} (hD : va_D A (gW w SL σ)) (hS : va_S A H0 H locs) (hA : ∀ q, H0.size ≤ q → A q) : ∀ q, gA w SL.length H.size q → A q := by
  intro q h
  rcases h with ⟨k, hk, rfl⟩ | h
  · exact hD.2 k _ (gW_at (List.getElem?_eq_getElem hk))
  · exact hA q (Nat.le_trans hS.1 h)
-- links between nest mates, which the words' list doesn't hold
def gNl : List (String × Nat × MethodName × String) := [("IslandGrammar", 18, yX1_init, "IslandGrammar"), ("IslandGrammar$Matcher", 28, yX0_init, "IslandGrammar"), ("IslandGrammar$Matcher", 67, yX6_isDigit, "IslandGrammar"), ("IslandGrammar$Matcher", 77, yX6_isLetter, "IslandGrammar"), ("IslandGrammar$Matcher", 60, yX6_isReference, "IslandGrammar"), ("IslandGrammar$Nodes", 132, yX6_isReference, "IslandGrammar"), ("IslandGrammar$Row", 25, yX6_mix, "IslandGrammar"), ("IslandGrammar$State", 52, yX6_mix, "IslandGrammar"), ("IslandGrammar$Nodes", 90, yX6_mix, "IslandGrammar")]
def gNw (U : State) : Prop := ∀ q ∈ gNl, va_Nw (.methodLinkNest q.1 q.2.1 q.2.2.1 q.2.2.2) U
theorem gNw.warm {s U : State} (hW : s.WarmedH U.vm) (h : gNw s) : gNw U := fun q hq => va_Nw.warmM hW (h q hq)
theorem gNw.same {u U : State} (e : u.vm = U.vm) (h : gNw u) : gNw U := fun q hq => va_Nw.same rfl e (h q hq)
-- the start and the end of a method of the whole system (n cells)
def gPc (w : GW) (SL : List Sh) (σ : St) (sz : Nat) (av : List Value) : Array Value → State → Prop := va_Pc av (fun U => U.heap.size = sz ∧ va_P w.1 vwCl (gW w SL σ) U.heap ∧ va_K w.1 vwCl (gT w) U ∧ va_D (fun _ => True) (gW w SL σ) ∧ gNw U)
abbrev gB (w : GW) (SL : List Sh) (σ : St) (t : State) : Prop := va_P w.1 vwCl (gW w SL σ) t.heap
abbrev gQi (w : GW) (SL : List Sh) (sz : Nat) (post : Int → St → Prop) : Array Value → State → Outcome → State → Prop := va_Qi (fun r (u : Int × St) => r = iz u.1 ∧ post u.1 u.2) (fun u t => gB w SL u.2 t) (gA w SL.length sz)
abbrev gQl (w : GW) (SL : List Sh) (sz : Nat) (post : Int → St → Prop) : Array Value → State → Outcome → State → Prop := va_Ql (fun r (u : Int × St) => r = lz u.1 ∧ post u.1 u.2) (fun u t => gB w SL u.2 t) (gA w SL.length sz)
abbrev gQv (w : GW) (SL : List Sh) (sz : Nat) (post : St → Prop) : Array Value → State → Outcome → State → Prop := va_Qv (fun u : St => post u) (fun u t => gB w SL u t) (gA w SL.length sz)
abbrev gQr (w : GW) (SL : List Sh) (sz : Nat) (post : Nat → St → Prop) : Array Value → State → Outcome → State → Prop := va_Qr (fun u : Nat × St => post u.1 u.2) (fun u a t => a = gad w u.1 ∧ gB w SL u.2 t) (gA w SL.length sz)
def gC (p : Program) (s : State) (m : MethodId) (args : Array Value) (meth : Method) (c : Code) (cc : ByteArray) (ret : Option FieldType) (nL : Nat) (own : String) (A : Nat → Prop) : Prop :=
  p.tables.exec = Jvm.exec ∧ c.code = cc ∧ meth.sig.returnType = ret ∧ c.maxLocals = nL ∧ s.vm.findClass own = some m.cls ∧ (∀ w ∈ wsL_law, w.before args s = true) ∧ meth.locks = false ∧ gNw s ∧ (∀ q, s.heap.size ≤ q → A q)
section GR
variable {p : Program} {l : Launch} {e : Env} {R : Room} {s : State} {m : MethodId} {args : Array Value} {below : List Frame} {meth : Method} {c : Code} {H : Heap} {locs : List Loc} {cells slots : Nat} {Q : State → Prop}
variable {cc : ByteArray} {pc nL : Nat} {ls : Array Slot} {rest : List Value} {A : Nat → Prop} {H0 : Heap} {w : GW} {SL : List Sh} {σ : St}
theorem g_met {y : MethodName} {ret : Option FieldType} {rm : Room} {sz : Nat} {Qc : Array Value → State → Outcome → State → Prop} (hy : plainName y.cls = true) (av : List Value) (hln : (lg_sl av).length ≤ nL)
    (body : ∀ (p : Program) (e : Env) (s : State) (m : MethodId) (below : List Frame) (meth : Method) (c : Code) (ls : Array Slot), s.heap.size = sz → gC p s m av.toArray meth c cc ret nL y.cls (gA w SL.length sz) → lv_has ls nL (lv_args 0 av) → gS w SL σ (gA w SL.length sz) s s.heap s.heap [] → W p l e rm s m av.toArray below meth c s.heap [] 0 0 (MQ below Qc av.toArray s 0 0 (gA w SL.length sz)) (F0 m 0 ls [])) :
    Met l y (Cond.code y cc nL ret :: wsL_law) rm (gPc w SL σ sz av) Qc 0 0 (gA w SL.length sz) := by
  refine Met.ofW (cc := cc) (maxL := nL) (ret := ret) hy rfl ?_
  intro p e s m args below meth c s₁ B hml hv
  obtain ⟨rfl, hsz, hP, hK, hD0, hN⟩ := hv
  have hts := atoms_spec (ws := Cond.code y cc nL ret :: wsL_law) B.pre
  have hown : s.vm.findClass y.cls = some m.cls := findClass_of_methodNamed B.named
  have hl := lv_entry av (n := nL) hln
  rw [lg_entry_eq]
  generalize (lg_sl av ++ List.replicate (nL - (lg_sl av).length) Slot.unset).toArray = ls at hl ⊢
  refine body p e s m below meth c ls hsz ⟨B.exec, B.bytes, B.returns, hml, hown, fun w hw => hts w (List.mem_cons_of_mem _ hw), B.notSynchronized, hN, fun q h => Or.inr (by rw [← hsz]; exact h)⟩ hl ⟨hK, hP, ⟨hD0.1, fun k q hk => ?_⟩, va_S.rf⟩
  obtain ⟨h1, h2⟩ := gW_ad hk
  exact Or.inl ⟨k, h1, h2⟩
theorem g_iadd (hexec : p.tables.exec = Jvm.exec) (hb : c.code = cc) {x y : Int} (hdg : decode cc pc = .ok (.iadd, 1)) (k : W p l e R s m args below meth c H locs cells slots Q (F0 m (pc + 1) ls (.int (iz (x + y)) :: rest))) : W p l e R s m args below meth c H locs cells slots Q (F0 m pc ls (.int (iz y) :: .int (iz x) :: rest)) :=
  lv_iadd hexec hb hdg (by rw [← Int32.ofInt_add]; exact k)
theorem g_isub (hexec : p.tables.exec = Jvm.exec) (hb : c.code = cc) {x y : Int} (hdg : decode cc pc = .ok (.isub, 1)) (k : W p l e R s m args below meth c H locs cells slots Q (F0 m (pc + 1) ls (.int (iz (x - y)) :: rest))) : W p l e R s m args below meth c H locs cells slots Q (F0 m pc ls (.int (iz y) :: .int (iz x) :: rest)) :=
  lv_isub hexec hb hdg (by rw [← Int32.ofInt_sub]; exact k)
theorem g_imul (hexec : p.tables.exec = Jvm.exec) (hb : c.code = cc) {x y : Int} (hdg : decode cc pc = .ok (.imul, 1)) (k : W p l e R s m args below meth c H locs cells slots Q (F0 m (pc + 1) ls (.int (iz (x * y)) :: rest))) : W p l e R s m args below meth c H locs cells slots Q (F0 m pc ls (.int (iz y) :: .int (iz x) :: rest)) :=
  lv_imul hexec hb hdg (by rw [← Int32.ofInt_mul]; exact k)
theorem g_irem (hexec : p.tables.exec = Jvm.exec) (hb : c.code = cc) {x y : Int} (h0 : 0 ≤ x) (h1 : x ≤ 2147483647) (h2 : 0 < y) (h3 : y ≤ 2147483647) (hdg : decode cc pc = .ok (.irem, 1)) (k : W p l e R s m args below meth c H locs cells slots Q (F0 m (pc + 1) ls (.int (iz (x % y)) :: rest))) : W p l e R s m args below meth c H locs cells slots Q (F0 m pc ls (.int (iz y) :: .int (iz x) :: rest)) :=
  lv_irem hexec hb hdg (fun h => by have := (iz_eq (a := y) (b := 0) ⟨by omega, by omega⟩ ⟨by decide, by decide⟩).mp h; omega) (by rw [iz_rem h0 h1 h2 h3]; exact k)
theorem g_iinc (hexec : p.tables.exec = Jvm.exec) (hb : c.code = cc) {i k : Nat} {n x : Int} {lv lv' : List (Nat × Value)} (hdg : decode cc pc = .ok (.iinc i n, 3)) (h : lv_has ls nL lv) (hk : lv[k]? = some (i, .int (iz x))) (hn : i < nL) (hl : (i, Value.int (iz (x + n))) :: lv.filter (fun q => !(q.1 == i) && !(q.1 + 1 == i && q.2.category == 2)) = lv') (kk : ∀ ls' : Array Slot, lv_has ls' nL lv' → W p l e R s m args below meth c H locs cells slots Q (F0 m (pc + 3) ls' rest)) : W p l e R s m args below meth c H locs cells slots Q (F0 m pc ls rest) :=
  lv_iinc hexec hb hdg h hk (v := iz (x + n)) (Int32.ofInt_add x n).symm hn hl kk
theorem g_i2l (hexec : p.tables.exec = Jvm.exec) (hb : c.code = cc) {x : Int} (h : inR x) (hdg : decode cc pc = .ok (.i2l, 1)) (k : W p l e R s m args below meth c H locs cells slots Q (F0 m (pc + 1) ls (.long (lz x) :: rest))) : W p l e R s m args below meth c H locs cells slots Q (F0 m pc ls (.int (iz x) :: rest)) :=
  lv_i2l hexec hb hdg (iz_l h) k
theorem g_ladd (hexec : p.tables.exec = Jvm.exec) (hb : c.code = cc) {x y : Int} (hdg : decode cc pc = .ok (.ladd, 1)) (k : W p l e R s m args below meth c H locs cells slots Q (F0 m (pc + 1) ls (.long (lz (x + y)) :: rest))) : W p l e R s m args below meth c H locs cells slots Q (F0 m pc ls (.long (lz y) :: .long (lz x) :: rest)) :=
  lv_ladd hexec hb hdg (by rw [← Int64.ofInt_add]; exact k)
theorem g_lmul (hexec : p.tables.exec = Jvm.exec) (hb : c.code = cc) {x y : Int} (hdg : decode cc pc = .ok (.lmul, 1)) (k : W p l e R s m args below meth c H locs cells slots Q (F0 m (pc + 1) ls (.long (lz (x * y)) :: rest))) : W p l e R s m args below meth c H locs cells slots Q (F0 m pc ls (.long (lz y) :: .long (lz x) :: rest)) :=
  lv_lmul hexec hb hdg (by rw [← Int64.ofInt_mul]; exact k)

theorem g_icmp_eq (hexec : p.tables.exec = Jvm.exec) (hb : c.code = cc) {x y : Int} {off : Int} {tgt : Nat} (hx : inR x) (hy : inR y) (hdg : decode cc pc = .ok (.if_icmp .eq off, 3)) (ht : (pc : Int) + off = (tgt : Int)) (kt : x = y → W p l e R s m args below meth c H locs cells slots Q (F0 m tgt ls rest)) (kf : ¬ (x = y) → W p l e R s m args below meth c H locs cells slots Q (F0 m (pc + 3) ls rest)) : W p l e R s m args below meth c H locs cells slots Q (F0 m pc ls (.int (iz y) :: .int (iz x) :: rest)) :=
  lv_icmp_eq hexec hb hdg ht (fun h => kt ((iz_eq hx hy).mp h)) (fun h => kf (fun q => h ((iz_eq hx hy).mpr q)))
theorem g_icmp_ne (hexec : p.tables.exec = Jvm.exec) (hb : c.code = cc) {x y : Int} {off : Int} {tgt : Nat} (hx : inR x) (hy : inR y) (hdg : decode cc pc = .ok (.if_icmp .ne off, 3)) (ht : (pc : Int) + off = (tgt : Int)) (kt : ¬ x = y → W p l e R s m args below meth c H locs cells slots Q (F0 m tgt ls rest)) (kf : x = y → W p l e R s m args below meth c H locs cells slots Q (F0 m (pc + 3) ls rest)) : W p l e R s m args below meth c H locs cells slots Q (F0 m pc ls (.int (iz y) :: .int (iz x) :: rest)) :=
  lv_icmp_ne hexec hb hdg ht (fun h => kt ((not_congr (iz_eq hx hy)).mp h)) (fun h => kf ((iz_eq hx hy).mp h))
theorem g_icmp_lt (hexec : p.tables.exec = Jvm.exec) (hb : c.code = cc) {x y : Int} {off : Int} {tgt : Nat} (hx : inR x) (hy : inR y) (hdg : decode cc pc = .ok (.if_icmp .lt off, 3)) (ht : (pc : Int) + off = (tgt : Int)) (kt : x < y → W p l e R s m args below meth c H locs cells slots Q (F0 m tgt ls rest)) (kf : ¬ (x < y) → W p l e R s m args below meth c H locs cells slots Q (F0 m (pc + 3) ls rest)) : W p l e R s m args below meth c H locs cells slots Q (F0 m pc ls (.int (iz y) :: .int (iz x) :: rest)) :=
  lv_icmp_lt hexec hb hdg ht (fun h => kt ((iz_lt hx hy).mp h)) (fun h => kf (fun q => h ((iz_lt hx hy).mpr q)))
theorem g_icmp_ge (hexec : p.tables.exec = Jvm.exec) (hb : c.code = cc) {x y : Int} {off : Int} {tgt : Nat} (hx : inR x) (hy : inR y) (hdg : decode cc pc = .ok (.if_icmp .ge off, 3)) (ht : (pc : Int) + off = (tgt : Int)) (kt : y ≤ x → W p l e R s m args below meth c H locs cells slots Q (F0 m tgt ls rest)) (kf : ¬ (y ≤ x) → W p l e R s m args below meth c H locs cells slots Q (F0 m (pc + 3) ls rest)) : W p l e R s m args below meth c H locs cells slots Q (F0 m pc ls (.int (iz y) :: .int (iz x) :: rest)) :=
  lv_icmp_ge hexec hb hdg ht (fun h => kt ((iz_le hy hx).mp h)) (fun h => kf (fun q => h ((iz_le hy hx).mpr q)))
theorem g_icmp_gt (hexec : p.tables.exec = Jvm.exec) (hb : c.code = cc) {x y : Int} {off : Int} {tgt : Nat} (hx : inR x) (hy : inR y) (hdg : decode cc pc = .ok (.if_icmp .gt off, 3)) (ht : (pc : Int) + off = (tgt : Int)) (kt : y < x → W p l e R s m args below meth c H locs cells slots Q (F0 m tgt ls rest)) (kf : ¬ (y < x) → W p l e R s m args below meth c H locs cells slots Q (F0 m (pc + 3) ls rest)) : W p l e R s m args below meth c H locs cells slots Q (F0 m pc ls (.int (iz y) :: .int (iz x) :: rest)) :=
  lv_icmp_gt hexec hb hdg ht (fun h => kt ((iz_lt hy hx).mp h)) (fun h => kf (fun q => h ((iz_lt hy hx).mpr q)))
theorem g_icmp_le (hexec : p.tables.exec = Jvm.exec) (hb : c.code = cc) {x y : Int} {off : Int} {tgt : Nat} (hx : inR x) (hy : inR y) (hdg : decode cc pc = .ok (.if_icmp .le off, 3)) (ht : (pc : Int) + off = (tgt : Int)) (kt : x ≤ y → W p l e R s m args below meth c H locs cells slots Q (F0 m tgt ls rest)) (kf : ¬ (x ≤ y) → W p l e R s m args below meth c H locs cells slots Q (F0 m (pc + 3) ls rest)) : W p l e R s m args below meth c H locs cells slots Q (F0 m pc ls (.int (iz y) :: .int (iz x) :: rest)) :=
  lv_icmp_le hexec hb hdg ht (fun h => kt ((iz_le hx hy).mp h)) (fun h => kf (fun q => h ((iz_le hx hy).mpr q)))
theorem g_if_eq (hexec : p.tables.exec = Jvm.exec) (hb : c.code = cc) {x : Int} {off : Int} {tgt : Nat} (hx : inR x) (hdg : decode cc pc = .ok (.ifCond .eq off, 3)) (ht : (pc : Int) + off = (tgt : Int)) (kt : x = 0 → W p l e R s m args below meth c H locs cells slots Q (F0 m tgt ls rest)) (kf : ¬ (x = 0) → W p l e R s m args below meth c H locs cells slots Q (F0 m (pc + 3) ls rest)) : W p l e R s m args below meth c H locs cells slots Q (F0 m pc ls (.int (iz x) :: rest)) := by
  have h0 : inR (0 : Int) := ⟨by decide, by decide⟩
  exact lv_if_eq hexec hb hdg ht (fun h => kt ((iz_eq hx h0).mp h)) (fun h => kf (fun q => h ((iz_eq hx h0).mpr q)))
theorem g_if_ne (hexec : p.tables.exec = Jvm.exec) (hb : c.code = cc) {x : Int} {off : Int} {tgt : Nat} (hx : inR x) (hdg : decode cc pc = .ok (.ifCond .ne off, 3)) (ht : (pc : Int) + off = (tgt : Int)) (kt : ¬ x = 0 → W p l e R s m args below meth c H locs cells slots Q (F0 m tgt ls rest)) (kf : x = 0 → W p l e R s m args below meth c H locs cells slots Q (F0 m (pc + 3) ls rest)) : W p l e R s m args below meth c H locs cells slots Q (F0 m pc ls (.int (iz x) :: rest)) := by
  have h0 : inR (0 : Int) := ⟨by decide, by decide⟩
  exact lv_if_ne hexec hb hdg ht (fun h => kt ((not_congr (iz_eq hx h0)).mp h)) (fun h => kf ((iz_eq hx h0).mp h))
theorem g_if_lt (hexec : p.tables.exec = Jvm.exec) (hb : c.code = cc) {x : Int} {off : Int} {tgt : Nat} (hx : inR x) (hdg : decode cc pc = .ok (.ifCond .lt off, 3)) (ht : (pc : Int) + off = (tgt : Int)) (kt : x < 0 → W p l e R s m args below meth c H locs cells slots Q (F0 m tgt ls rest)) (kf : ¬ (x < 0) → W p l e R s m args below meth c H locs cells slots Q (F0 m (pc + 3) ls rest)) : W p l e R s m args below meth c H locs cells slots Q (F0 m pc ls (.int (iz x) :: rest)) := by
  have h0 : inR (0 : Int) := ⟨by decide, by decide⟩
  exact lv_if_lt hexec hb hdg ht (fun h => kt ((iz_lt hx h0).mp h)) (fun h => kf (fun q => h ((iz_lt hx h0).mpr q)))
theorem g_if_ge (hexec : p.tables.exec = Jvm.exec) (hb : c.code = cc) {x : Int} {off : Int} {tgt : Nat} (hx : inR x) (hdg : decode cc pc = .ok (.ifCond .ge off, 3)) (ht : (pc : Int) + off = (tgt : Int)) (kt : 0 ≤ x → W p l e R s m args below meth c H locs cells slots Q (F0 m tgt ls rest)) (kf : ¬ (0 ≤ x) → W p l e R s m args below meth c H locs cells slots Q (F0 m (pc + 3) ls rest)) : W p l e R s m args below meth c H locs cells slots Q (F0 m pc ls (.int (iz x) :: rest)) := by
  have h0 : inR (0 : Int) := ⟨by decide, by decide⟩
  exact lv_if_ge hexec hb hdg ht (fun h => kt ((iz_le h0 hx).mp h)) (fun h => kf (fun q => h ((iz_le h0 hx).mpr q)))
theorem g_if_gt (hexec : p.tables.exec = Jvm.exec) (hb : c.code = cc) {x : Int} {off : Int} {tgt : Nat} (hx : inR x) (hdg : decode cc pc = .ok (.ifCond .gt off, 3)) (ht : (pc : Int) + off = (tgt : Int)) (kt : 0 < x → W p l e R s m args below meth c H locs cells slots Q (F0 m tgt ls rest)) (kf : ¬ (0 < x) → W p l e R s m args below meth c H locs cells slots Q (F0 m (pc + 3) ls rest)) : W p l e R s m args below meth c H locs cells slots Q (F0 m pc ls (.int (iz x) :: rest)) := by
  have h0 : inR (0 : Int) := ⟨by decide, by decide⟩
  exact lv_if_gt hexec hb hdg ht (fun h => kt ((iz_lt h0 hx).mp h)) (fun h => kf (fun q => h ((iz_lt h0 hx).mpr q)))
theorem g_if_le (hexec : p.tables.exec = Jvm.exec) (hb : c.code = cc) {x : Int} {off : Int} {tgt : Nat} (hx : inR x) (hdg : decode cc pc = .ok (.ifCond .le off, 3)) (ht : (pc : Int) + off = (tgt : Int)) (kt : x ≤ 0 → W p l e R s m args below meth c H locs cells slots Q (F0 m tgt ls rest)) (kf : ¬ (x ≤ 0) → W p l e R s m args below meth c H locs cells slots Q (F0 m (pc + 3) ls rest)) : W p l e R s m args below meth c H locs cells slots Q (F0 m pc ls (.int (iz x) :: rest)) := by
  have h0 : inR (0 : Int) := ⟨by decide, by decide⟩
  exact lv_if_le hexec hb hdg ht (fun h => kt ((iz_le hx h0).mp h)) (fun h => kf (fun q => h ((iz_le hx h0).mpr q)))
theorem gG_int {C : String} {T : u_T} {N ci : Nat} {cs : List Nat} {k j : Nat} (hsh : SL[k]? = some (1, ci, cs)) (hj : cs[j]? = some 0) : (gF w (σ k) 0 cs)[j]? = some (.int (iz (σ k j))) := by
  rw [gF_at, hj]
  simp [gV]
theorem g_getI (hexec : p.tables.exec = Jvm.exec) (hb : c.code = cc) (hts : ∀ w ∈ wsL_law, w.before args s = true) {own C : String} (hown : s.vm.findClass own = some m.cls) {T : u_T} {N ci index : Nat} {cs : List Nat} {k : Nat} (j : Nat) (hin : ∀ w ∈ u_ws C T N, w ∈ wsL_law) (G : gS w SL σ A s H0 H locs) (hsh : SL[k]? = some (1, ci, cs)) (hc : vwCl[ci]? = some (C, T, N)) (hk : j < N) (hj : cs[j]? = some 0) (hlink : Cond.fieldLink own index (T j).1 (T j).2.1 (T j).2.2.1 ∈ wsL_law) (hdg : decode cc pc = .ok (.getfield index, 3))
    (kk : W p l e R s m args below meth c H locs cells slots Q (F0 m (pc + 3) ls (.int (iz (σ k j)) :: rest))) : W p l e R s m args below meth c H locs cells slots Q (F0 m pc ls (.ref (gad w k) :: rest)) :=
  va_get hexec hb hts hin hown G.1 G.2.1 k (gW_at hsh) hc j hk (hts _ hlink) (fun _ h => h) (show (gF w (σ k) 0 cs)[j]? = some (.int (iz (σ k j))) by rw [gF_at, hj]; simp [gV]) hdg kk
theorem g_getL (hexec : p.tables.exec = Jvm.exec) (hb : c.code = cc) (hts : ∀ w ∈ wsL_law, w.before args s = true) {own C : String} (hown : s.vm.findClass own = some m.cls) {T : u_T} {N ci index : Nat} {cs : List Nat} {k : Nat} (j : Nat) (hin : ∀ w ∈ u_ws C T N, w ∈ wsL_law) (G : gS w SL σ A s H0 H locs) (hsh : SL[k]? = some (1, ci, cs)) (hc : vwCl[ci]? = some (C, T, N)) (hk : j < N) (hj : cs[j]? = some 1) (hlink : Cond.fieldLink own index (T j).1 (T j).2.1 (T j).2.2.1 ∈ wsL_law) (hdg : decode cc pc = .ok (.getfield index, 3))
    (kk : W p l e R s m args below meth c H locs cells slots Q (F0 m (pc + 3) ls (.long (lz (σ k j)) :: rest))) : W p l e R s m args below meth c H locs cells slots Q (F0 m pc ls (.ref (gad w k) :: rest)) :=
  va_get hexec hb hts hin hown G.1 G.2.1 k (gW_at hsh) hc j hk (hts _ hlink) (fun _ h => h) (show (gF w (σ k) 0 cs)[j]? = some (.long (lz (σ k j))) by rw [gF_at, hj]; simp [gV]) hdg kk
theorem g_getR (hexec : p.tables.exec = Jvm.exec) (hb : c.code = cc) (hts : ∀ w ∈ wsL_law, w.before args s = true) {own C : String} (hown : s.vm.findClass own = some m.cls) {T : u_T} {N ci index : Nat} {cs : List Nat} {k : Nat} (j r : Nat) (hin : ∀ w ∈ u_ws C T N, w ∈ wsL_law) (G : gS w SL σ A s H0 H locs) (hsh : SL[k]? = some (1, ci, cs)) (hc : vwCl[ci]? = some (C, T, N)) (hk : j < N) (hj : cs[j]? = some (r + 3)) (hlink : Cond.fieldLink own index (T j).1 (T j).2.1 (T j).2.2.1 ∈ wsL_law) (hdg : decode cc pc = .ok (.getfield index, 3))
    (kk : W p l e R s m args below meth c H locs cells slots Q (F0 m (pc + 3) ls (.ref (gad w r) :: rest))) : W p l e R s m args below meth c H locs cells slots Q (F0 m pc ls (.ref (gad w k) :: rest)) :=
  va_get hexec hb hts hin hown G.1 G.2.1 k (gW_at hsh) hc j hk (hts _ hlink) (fun _ h => h) (show (gF w (σ k) 0 cs)[j]? = some (.ref (gad w r)) by rw [gF_at, hj]; simp [gV]) hdg kk
theorem gS.upd (G : gS w SL σ A s H0 H locs) {k : Nat} {sh : Sh} {f : Int → Int} {e : va_E} {H1 : Heap} {locs1 : List Loc} (hsh : SL[k]? = some sh) (he : e = gE w f sh) (hP : va_P w.1 vwCl ((gW w SL σ).set k (gad w k, e)) H1) (hS : va_S A H0 H1 locs1) : gS w SL (ur σ k f) A s H0 H1 locs1 :=
  ⟨G.1, by rw [gW_set hsh f e he] at hP; exact hP, gD_eq G.2.2.1, hS⟩
theorem g_putI (hexec : p.tables.exec = Jvm.exec) (hb : c.code = cc) (hts : ∀ w ∈ wsL_law, w.before args s = true) {own C : String} (hown : s.vm.findClass own = some m.cls) {T : u_T} {N ci index : Nat} {cs : List Nat} {k : Nat} (j : Nat) (hin : ∀ w ∈ u_ws C T N, w ∈ wsL_law) (ty0 : Nat → FieldType) (hty : ∀ k, k < N → parseFieldDescriptor (T k).2.2.1 = some (ty0 k)) (hnm : ∀ a, a < N → ∀ b, b < N → a ≠ b → (T a).2.1 ≠ (T b).2.1) (G : gS w SL σ A s H0 H locs) (hsh : SL[k]? = some (1, ci, cs)) (hc : vwCl[ci]? = some (C, T, N)) (hk : j < N) (hj : cs[j]? = some 0) (hlink : Cond.fieldLink own index (T j).1 (T j).2.1 (T j).2.2.1 ∈ wsL_law) (hfin : (T j).2.2.2 = false) {x : Int} (hn : narrow (ty0 j) (.int (iz x)) = .int (iz x)) (hfit : fits (ty0 j) (.int (iz x)) = true) (hdg : decode cc pc = .ok (.putfield index, 3))
    (kk : ∀ (σ1 : St), σ1 = up σ k j x → ∀ (H1 : Heap) (locs1 : List Loc), gS w SL σ1 A s H0 H1 locs1 → W p l e R s m args below meth c H1 locs1 cells slots Q (F0 m (pc + 3) ls rest)) : W p l e R s m args below meth c H locs cells slots Q (F0 m pc ls (.int (iz x) :: .ref (gad w k) :: rest)) :=
  va_put hexec hb hts hin ty0 hty hnm hown G.1 G.2.1 G.2.2.1 G.2.2.2 k (gW_at hsh) hc j hk (hts _ hlink) (fun _ h => h) hfin (hty j hk) hn hfit (by rw [gF_len]; exact (List.getElem?_eq_some_iff.mp hj).1) hdg (fun H1 locs1 hP hD hS => kk _ rfl H1 locs1 (G.upd hsh (by
    show Sum.inr (ci, (gF w (σ k) 0 cs).set j (.int (iz x))) = Sum.inr (ci, gF w (ui (σ k) j x) 0 cs)
    rw [gF_set w (σ k) cs j x _ 0 hj (by simp [gV, ui_s])]) hP hS))
theorem g_putL (hexec : p.tables.exec = Jvm.exec) (hb : c.code = cc) (hts : ∀ w ∈ wsL_law, w.before args s = true) {own C : String} (hown : s.vm.findClass own = some m.cls) {T : u_T} {N ci index : Nat} {cs : List Nat} {k : Nat} (j : Nat) (hin : ∀ w ∈ u_ws C T N, w ∈ wsL_law) (ty0 : Nat → FieldType) (hty : ∀ k, k < N → parseFieldDescriptor (T k).2.2.1 = some (ty0 k)) (hnm : ∀ a, a < N → ∀ b, b < N → a ≠ b → (T a).2.1 ≠ (T b).2.1) (G : gS w SL σ A s H0 H locs) (hsh : SL[k]? = some (1, ci, cs)) (hc : vwCl[ci]? = some (C, T, N)) (hk : j < N) (hj : cs[j]? = some 1) (hlink : Cond.fieldLink own index (T j).1 (T j).2.1 (T j).2.2.1 ∈ wsL_law) (hfin : (T j).2.2.2 = false) {x : Int} (hn : narrow (ty0 j) (.long (lz x)) = .long (lz x)) (hfit : fits (ty0 j) (.long (lz x)) = true) (hdg : decode cc pc = .ok (.putfield index, 3))
    (kk : ∀ (σ1 : St), σ1 = up σ k j x → ∀ (H1 : Heap) (locs1 : List Loc), gS w SL σ1 A s H0 H1 locs1 → W p l e R s m args below meth c H1 locs1 cells slots Q (F0 m (pc + 3) ls rest)) : W p l e R s m args below meth c H locs cells slots Q (F0 m pc ls (.long (lz x) :: .ref (gad w k) :: rest)) :=
  va_put hexec hb hts hin ty0 hty hnm hown G.1 G.2.1 G.2.2.1 G.2.2.2 k (gW_at hsh) hc j hk (hts _ hlink) (fun _ h => h) hfin (hty j hk) hn hfit (by rw [gF_len]; exact (List.getElem?_eq_some_iff.mp hj).1) hdg (fun H1 locs1 hP hD hS => kk _ rfl H1 locs1 (G.upd hsh (by
    show Sum.inr (ci, (gF w (σ k) 0 cs).set j (.long (lz x))) = Sum.inr (ci, gF w (ui (σ k) j x) 0 cs)
    rw [gF_set w (σ k) cs j x _ 1 hj (by simp [gV, ui_s])]) hP hS))
theorem g_alen (hexec : p.tables.exec = Jvm.exec) (hb : c.code = cc) (G : gS w SL σ A s H0 H locs) {k n : Nat} {cs : List Nat} (hsh : SL[k]? = some (0, n, cs)) (hdg : decode cc pc = .ok (.arraylength, 1)) (kk : W p l e R s m args below meth c H locs cells slots Q (F0 m (pc + 1) ls (.int (iz (n : Int)) :: rest))) : W p l e R s m args below meth c H locs cells slots Q (F0 m pc ls (.ref (gad w k) :: rest)) :=
  va_alen hexec hb G.1 G.2.1 k 0 (gW_at hsh) rfl Int32.ofInt_eq_ofNat.symm hdg kk
theorem g_alenR (hexec : p.tables.exec = Jvm.exec) (hb : c.code = cc) (G : gS w SL σ A s H0 H locs) {k n : Nat} {cs : List Nat} (hsh : SL[k]? = some (2, n, cs)) (hdg : decode cc pc = .ok (.arraylength, 1)) (kk : W p l e R s m args below meth c H locs cells slots Q (F0 m (pc + 1) ls (.int (iz (n : Int)) :: rest))) : W p l e R s m args below meth c H locs cells slots Q (F0 m pc ls (.ref (gad w k) :: rest)) :=
  va_alen hexec hb G.1 G.2.1 k 1 (gW_at hsh) rfl Int32.ofInt_eq_ofNat.symm hdg kk
theorem g_ald (hexec : p.tables.exec = Jvm.exec) (hb : c.code = cc) (G : gS w SL σ A s H0 H locs) {k n : Nat} {cs : List Nat} (hsh : SL[k]? = some (0, n, cs)) {i : Int} (h0 : 0 ≤ i) (h1 : i < (n : Int)) (hn : n < 2147483648) (hdg : decode cc pc = .ok (.iaload, 1)) (kk : W p l e R s m args below meth c H locs cells slots Q (F0 m (pc + 1) ls (.int (iz (σ k i)) :: rest))) : W p l e R s m args below meth c H locs cells slots Q (F0 m pc ls (.int (iz i) :: .ref (gad w k) :: rest)) :=
  va_iald hexec hb G.1 G.2.1 k 0 (gW_at hsh) rfl (iz_in h0 h1 hn) hdg (by
    show W p l e R s m args below meth c H locs cells slots Q (F0 m (pc + 1) ls (.int (iz (σ k (((iz i).toNatClampNeg : Nat) : Int))) :: rest))
    rw [iz_cl h0 (by omega), Int.toNat_of_nonneg h0]
    exact kk)
theorem g_ast (hexec : p.tables.exec = Jvm.exec) (hb : c.code = cc) (G : gS w SL σ A s H0 H locs) {k n : Nat} {cs : List Nat} (hsh : SL[k]? = some (0, n, cs)) {i x : Int} (h0 : 0 ≤ i) (h1 : i < (n : Int)) (hn : n < 2147483648) (hdg : decode cc pc = .ok (.iastore, 1))
    (kk : ∀ (σ1 : St), σ1 = up σ k i x → ∀ (H1 : Heap) (locs1 : List Loc), gS w SL σ1 A s H0 H1 locs1 → W p l e R s m args below meth c H1 locs1 cells slots Q (F0 m (pc + 1) ls rest)) : W p l e R s m args below meth c H locs cells slots Q (F0 m pc ls (.int (iz x) :: .int (iz i) :: .ref (gad w k) :: rest)) :=
  va_iast hexec hb G.1 G.2.1 G.2.2.1 G.2.2.2 k 0 (gW_at hsh) rfl (iz_in h0 h1 hn) hdg (fun H1 locs1 hP hD hS => kk _ rfl H1 locs1 (G.upd hsh (by
    show Sum.inl (w.2.1, n, Sum.inl (upd (fun j : Nat => iz (σ k (j : Int))) (iz i).toNatClampNeg (iz x))) = Sum.inl (w.2.1, n, Sum.inl (fun j : Nat => iz (ui (σ k) i x (j : Int))))
    refine congrArg (fun z : Nat → Int32 => (Sum.inl (w.2.1, n, Sum.inl z) : va_E)) (funext fun j => ?_)
    unfold upd ui
    rw [iz_cl h0 (by omega)]
    by_cases hj : j = i.toNat
    · rw [if_pos hj, if_pos (by omega)]
    · rw [if_neg hj, if_neg (by omega)]) hP hS))
theorem g_iret (hexec : p.tables.exec = Jvm.exec) (hb : c.code = cc) (hr : meth.sig.returnType = some .int) (hlk : meth.locks = false) {sz : Nat} (hz : s.heap.size = sz) (G : gS w SL σ (gA w SL.length sz) s s.heap H locs) {post : Int → St → Prop} {x : Int} (hq : post x σ) (hdg : decode cc pc = .ok (.ireturn, 1)) : W p l e R s m args below meth c H locs cells slots (MQ below (gQi w SL sz post) args s cells slots (gA w SL.length sz)) (F0 m pc ls [.int (iz x)]) :=
  W.iret hexec hb hr (fun t ht hW => ⟨⟨iz x, (x, σ), rfl, ⟨rfl, hq⟩, by show va_P _ _ _ t.heap; rw [ht]; exact G.2.1⟩, G.2.2.2.F ht⟩) G.2.2.2.2.2 hdg hlk
theorem g_zret (hexec : p.tables.exec = Jvm.exec) (hb : c.code = cc) (hr : meth.sig.returnType = some .boolean) (hlk : meth.locks = false) {sz : Nat} (hz : s.heap.size = sz) (G : gS w SL σ (gA w SL.length sz) s s.heap H locs) {post : Int → St → Prop} {x : Int} (hx : x = 0 ∨ x = 1) (hq : post x σ) (hdg : decode cc pc = .ok (.ireturn, 1)) : W p l e R s m args below meth c H locs cells slots (MQ below (gQi w SL sz post) args s cells slots (gA w SL.length sz)) (F0 m pc ls [.int (iz x)]) :=
  W.zret hexec hb hr (by rcases hx with rfl | rfl <;> rfl) (fun t ht hW => ⟨⟨iz x, (x, σ), rfl, ⟨rfl, hq⟩, by show va_P _ _ _ t.heap; rw [ht]; exact G.2.1⟩, G.2.2.2.F ht⟩) G.2.2.2.2.2 hdg hlk
theorem g_lret (hexec : p.tables.exec = Jvm.exec) (hb : c.code = cc) (hr : meth.sig.returnType = some .long) (hlk : meth.locks = false) {sz : Nat} (hz : s.heap.size = sz) (G : gS w SL σ (gA w SL.length sz) s s.heap H locs) {post : Int → St → Prop} {x : Int} (hq : post x σ) (hdg : decode cc pc = .ok (.lreturn, 1)) : W p l e R s m args below meth c H locs cells slots (MQ below (gQl w SL sz post) args s cells slots (gA w SL.length sz)) (F0 m pc ls [.long (lz x)]) :=
  W.lret hexec hb hr (fun t ht hW => ⟨⟨lz x, (x, σ), rfl, ⟨rfl, hq⟩, by show va_P _ _ _ t.heap; rw [ht]; exact G.2.1⟩, G.2.2.2.F ht⟩) G.2.2.2.2.2 hdg hlk
theorem g_vret (hexec : p.tables.exec = Jvm.exec) (hb : c.code = cc) (hr : meth.sig.returnType = none) (hlk : meth.locks = false) {sz : Nat} (hz : s.heap.size = sz) (G : gS w SL σ (gA w SL.length sz) s s.heap H locs) {post : St → Prop} (hq : post σ) (hdg : decode cc pc = .ok (.return_, 1)) : W p l e R s m args below meth c H locs cells slots (MQ below (gQv w SL sz post) args s cells slots (gA w SL.length sz)) (F0 m pc ls []) :=
  W.vret hexec hb hr (fun t ht hW => ⟨⟨σ, rfl, hq, by show va_P _ _ _ t.heap; rw [ht]; exact G.2.1⟩, G.2.2.2.F ht⟩) G.2.2.2.2.2 hdg hlk
theorem g_rret (hexec : p.tables.exec = Jvm.exec) (hb : c.code = cc) {rt : FieldType} (hr : meth.sig.returnType = some rt) (hrt : ∃ n, rt = .object n) (hlk : meth.locks = false) {sz : Nat} (hz : s.heap.size = sz) (G : gS w SL σ (gA w SL.length sz) s s.heap H locs) {post : Nat → St → Prop} {k : Nat} (hq : post k σ) (hdg : decode cc pc = .ok (.areturn, 1)) : W p l e R s m args below meth c H locs cells slots (MQ below (gQr w SL sz post) args s cells slots (gA w SL.length sz)) (F0 m pc ls [.ref (gad w k)]) :=
  W.aret hexec hb hr (Or.inl hrt) (Or.inr ⟨_, rfl⟩) (fun t ht hW => ⟨⟨(k, σ), gad w k, rfl, hq, rfl, by show va_P _ _ _ t.heap; rw [ht]; exact G.2.1⟩, G.2.2.2.F ht⟩) G.2.2.2.2.2 hdg hlk
theorem g_aald (hexec : p.tables.exec = Jvm.exec) (hb : c.code = cc) (G : gS w SL σ A s H0 H locs) {k n : Nat} {cs : List Nat} (hsh : SL[k]? = some (2, n, cs)) {i : Int} (h0 : 0 ≤ i) (h1 : i < (n : Int)) (hn : n < 2147483648) (hdg : decode cc pc = .ok (.aaload, 1)) (r : Nat) (hr : cs.getD i.toNat 2 = r + 3) (kk : W p l e R s m args below meth c H locs cells slots Q (F0 m (pc + 1) ls (.ref (gad w r) :: rest))) : W p l e R s m args below meth c H locs cells slots Q (F0 m pc ls (.int (iz i) :: .ref (gad w k) :: rest)) :=
  va_aldq hexec hb G.1 G.2.1 k 1 (gW_at hsh) rfl (iz_in h0 h1 hn) hdg (by
    show W p l e R s m args below meth c H locs cells slots Q (F0 m (pc + 1) ls (va_rf (gO w (cs.getD (iz i).toNatClampNeg 2)) :: rest))
    rw [iz_cl h0 (by omega), hr]
    exact kk)
theorem g_min (hexec : p.tables.exec = Jvm.exec) (hb : c.code = cc) (hml : c.maxLocals = ls.size) (hts : ∀ w ∈ wsL_law, w.before args s = true) {own : String} {index : Nat} (hown : s.vm.findClass own = some m.cls) (hlink : Cond.methodLink own index Lib.Math.min.name ∈ wsL_law) (hstat : Cond.static Lib.Math.min.name ∈ wsL_law) (hini : Cond.initialized "java/lang/Math" ∈ wsL_law) (hcode : Cond.code Lib.Math.min.name Lib.Math.min.code 2 (some .int) ∈ wsL_law)
    (hframes : 1 ≤ R.frames) (hlocals : (rest.map fun v => v.category).sum + 13 ≤ R.locals) (hc : cells ≤ R.cells) (hs : slots ≤ R.slots) {x y : Int} (hx : inR x) (hy : inR y) (hdg : decode cc pc = .ok (.invokestatic index, 3)) (kk : ∀ r : Int, r = min x y → W p l e R s m args below meth c H locs cells slots Q (F0 m (pc + 3) ls (.int (iz r) :: rest))) : W p l e R s m args below meth c H locs cells slots Q (F0 m pc ls (.int (iz y) :: .int (iz x) :: rest)) :=
  va_mmin hexec hb hml hown (hts _ hlink) (hts _ hstat) (hts _ hini) (hts _ hcode) hframes hlocals hc hs hdg (by
    have h := kk (min x y) rfl
    by_cases q : y < x
    · rw [if_pos ((iz_lt hy hx).mpr q)]
      rw [show min x y = y by omega] at h
      exact h
    · rw [if_neg (fun z => q ((iz_lt hy hx).mp z))]
      rw [show min x y = x by omega] at h
      exact h)
theorem g_max (hexec : p.tables.exec = Jvm.exec) (hb : c.code = cc) (hml : c.maxLocals = ls.size) (hts : ∀ w ∈ wsL_law, w.before args s = true) {own : String} {index : Nat} (hown : s.vm.findClass own = some m.cls) (hlink : Cond.methodLink own index Lib.Math.max.name ∈ wsL_law) (hstat : Cond.static Lib.Math.max.name ∈ wsL_law) (hini : Cond.initialized "java/lang/Math" ∈ wsL_law) (hcode : Cond.code Lib.Math.max.name Lib.Math.max.code 2 (some .int) ∈ wsL_law)
    (hframes : 1 ≤ R.frames) (hlocals : (rest.map fun v => v.category).sum + 13 ≤ R.locals) (hc : cells ≤ R.cells) (hs : slots ≤ R.slots) {x y : Int} (hx : inR x) (hy : inR y) (hdg : decode cc pc = .ok (.invokestatic index, 3)) (kk : ∀ r : Int, r = max x y → W p l e R s m args below meth c H locs cells slots Q (F0 m (pc + 3) ls (.int (iz r) :: rest))) : W p l e R s m args below meth c H locs cells slots Q (F0 m pc ls (.int (iz y) :: .int (iz x) :: rest)) :=
  va_mmax hexec hb hml hown (hts _ hlink) (hts _ hstat) (hts _ hini) (hts _ hcode) hframes hlocals hc hs hdg (by
    have h := kk (max x y) rfl
    by_cases q : x < y
    · rw [if_pos ((iz_lt hx hy).mpr q)]
      rw [show max x y = y by omega] at h
      exact h
    · rw [if_neg (fun z => q ((iz_lt hx hy).mp z))]
      rw [show max x y = x by omega] at h
      exact h)
end GR
-- calls
theorem gGood {own C : String} {idx nL : Nat} {y : MethodName} {cc : ByteArray} {ret : Option FieldType} (h1 : Cond.methodLink own idx y ∈ wsL_law) (h2 : Cond.instanceMethod y ∈ wsL_law) (h3 : Cond.selects C y y ∈ wsL_law) (h4 : Cond.initialized C ∈ wsL_law) (h5 : Cond.code y cc nL ret ∈ wsL_law) : GoodIn wsL_law (wsV own idx C y (Cond.code y cc nL ret :: wsL_law)) := by
  have all : ∀ w ∈ wsL_law, (w.onTables && w.keeps) = true ∨ ∃ ty, w = .arrayClass ty := fun w h => good_of_word (List.all_eq_true.mp gWAll w h)
  intro w hw
  have hm : w ∈ wsL_law := by
    unfold wsV at hw
    simp only [List.cons_append, List.nil_append, List.mem_cons] at hw
    rcases hw with rfl | rfl | rfl | rfl | rfl | hw <;> assumption
  exact ⟨hm, all w hm⟩
theorem gGoodS {own : String} {idx nL : Nat} {y : MethodName} {cc : ByteArray} {ret : Option FieldType} (h1 : Cond.methodLink own idx y ∈ wsL_law) (h2 : Cond.static y ∈ wsL_law) (h4 : Cond.initialized y.cls ∈ wsL_law) (h5 : Cond.code y cc nL ret ∈ wsL_law) : GoodIn wsL_law (va_wsS own idx y (Cond.code y cc nL ret :: wsL_law)) := by
  have all : ∀ w ∈ wsL_law, (w.onTables && w.keeps) = true ∨ ∃ ty, w = .arrayClass ty := fun w h => good_of_word (List.all_eq_true.mp gWAll w h)
  intro w hw
  have hm : w ∈ wsL_law := by
    unfold va_wsS at hw
    simp only [List.cons_append, List.nil_append, List.mem_cons] at hw
    rcases hw with rfl | rfl | rfl | rfl | hw <;> assumption
  exact ⟨hm, all w hm⟩
theorem gGoodC {nL : Nat} {y : MethodName} {cc : ByteArray} {ret : Option FieldType} (h5 : Cond.code y cc nL ret ∈ wsL_law) : GoodIn wsL_law (Cond.code y cc nL ret :: wsL_law) := by
  have all : ∀ w ∈ wsL_law, (w.onTables && w.keeps) = true ∨ ∃ ty, w = .arrayClass ty := fun w h => good_of_word (List.all_eq_true.mp gWAll w h)
  intro w hw
  have hm : w ∈ wsL_law := by
    rcases List.mem_cons.mp hw with rfl | hw <;> assumption
  exact ⟨hm, all w hm⟩
section GCALL
variable {p : Program} {l : Launch} {e : Env} {R : Room} {s : State} {m : MethodId} {args : Array Value} {below : List Frame} {meth : Method} {c : Code} {H : Heap} {locs : List Loc} {cells slots : Nat} {Q : State → Prop}
variable {cc : ByteArray} {pc nL : Nat} {ls : Array Slot} {rest st : List Value} {A : Nat → Prop} {H0 : Heap} {w : GW} {SL : List Sh} {σ : St}
theorem gPc_blind {sz : Nat} {av : List Value} : FrameBlind (gPc w SL σ sz av) := fun a U g mk q => by
  obtain ⟨q0, q1, qP, qK, qD, qN⟩ := q
  exact ⟨q0, q1, qP, va_K.moved (u := U) (U := U.calling g mk a) (Vm.Alike.refl U.vm) qK, qD, gNw.same rfl qN⟩
theorem gPc_at {av : List Value} (G : gS w SL σ A s H0 H locs) (hN : gNw s) : ∀ U : State, U.heap = H → s.WarmedH U.vm → gPc w SL σ H.size av av.toArray U := fun U hU hW =>
  ⟨rfl, by rw [hU], by rw [hU]; exact G.2.1, va_K.moved hW.alike G.1, G.2.2.1.weaken (fun _ _ _ _ => trivial), hN.warm hW⟩
theorem gPreV {k ci N : Nat} {cs : List Nat} {C : String} {T : u_T} {As : List Value} (G : gS w SL σ A s H0 H locs) (hN : gNw s) (hsh : SL[k]? = some (1, ci, cs)) (hc : vwCl[ci]? = some (C, T, N)) : PreV s H C (gad w k) (gPc w SL σ H.size (.ref (gad w k) :: As)) As :=
  ⟨gPc_blind, va_recv (q := (C, T, N)) G.1 G.2.1 hc (q0 := k) (gW_at hsh), gPc_at G hN⟩
theorem gPreS {As : List Value} (G : gS w SL σ A s H0 H locs) (hN : gNw s) : PreS s H (gPc w SL σ H.size As) As := ⟨gPc_blind, gPc_at G hN⟩
theorem gBack (G : gS w SL σ A s H0 H locs) {σ1 : St} {t : State} {H1 : Heap} {locs1 : List Loc} (ht : t.heap = H1) (hB : gB w SL σ1 t) (hS : va_S A H0 H1 locs1) : gS w SL σ1 A s H0 H1 locs1 :=
  ⟨G.1, by rw [← ht]; exact hB, gD_eq G.2.2.1, hS⟩
theorem gIn (G : gS w SL σ A s H0 H locs) (hA : ∀ q, H0.size ≤ q → A q) : ∀ q, gA w SL.length H.size q → A q := gA_of G.2.2.1 G.2.2.2 hA
theorem g_doneI {n : Nat} {own : String} {a : Array Value} {post : Int → St → Prop} (G : gS w SL σ A s H0 H locs) (hA : ∀ q, H0.size ≤ q → A q) (hr : va_Run p l e R s m args below meth c H locs cells slots 0 0 (F0 m pc ls st) rest (gQi w SL H.size post a) (gA w SL.length H.size)) (kk : ∀ (r : Int) (σ1 : St) (H1 : Heap) (locs1 : List Loc), post r σ1 → gS w SL σ1 A s H0 H1 locs1 → W p l e R s m args below meth c H1 locs1 cells slots Q (F0 m (pc + 3) ls (.int (iz r) :: rest))) : W p l e R s m args below meth c H locs cells slots Q (F0 m pc ls st) :=
  va_calli hr G.2.2.2 (fun q _ h => gIn G hA q h) (gIn G hA) (fun r u t H1 locs1 ht hvm hw hB hz1 hk1 hS => by
    obtain ⟨h1, h2⟩ := hw
    subst h1
    exact kk u.1 u.2 H1 locs1 h2 (gBack G ht hB hS))
theorem g_doneL {n : Nat} {own : String} {a : Array Value} {post : Int → St → Prop} (G : gS w SL σ A s H0 H locs) (hA : ∀ q, H0.size ≤ q → A q) (hr : va_Run p l e R s m args below meth c H locs cells slots 0 0 (F0 m pc ls st) rest (gQl w SL H.size post a) (gA w SL.length H.size)) (kk : ∀ (r : Int) (σ1 : St) (H1 : Heap) (locs1 : List Loc), post r σ1 → gS w SL σ1 A s H0 H1 locs1 → W p l e R s m args below meth c H1 locs1 cells slots Q (F0 m (pc + 3) ls (.long (lz r) :: rest))) : W p l e R s m args below meth c H locs cells slots Q (F0 m pc ls st) :=
  va_calll hr G.2.2.2 (fun q _ h => gIn G hA q h) (gIn G hA) (fun r u t H1 locs1 ht hvm hw hB hz1 hk1 hS => by
    obtain ⟨h1, h2⟩ := hw
    subst h1
    exact kk u.1 u.2 H1 locs1 h2 (gBack G ht hB hS))
theorem g_doneV {n : Nat} {own : String} {a : Array Value} {post : St → Prop} (G : gS w SL σ A s H0 H locs) (hA : ∀ q, H0.size ≤ q → A q) (hr : va_Run p l e R s m args below meth c H locs cells slots 0 0 (F0 m pc ls st) rest (gQv w SL H.size post a) (gA w SL.length H.size)) (kk : ∀ (σ1 : St) (H1 : Heap) (locs1 : List Loc), post σ1 → gS w SL σ1 A s H0 H1 locs1 → W p l e R s m args below meth c H1 locs1 cells slots Q (F0 m (pc + 3) ls rest)) : W p l e R s m args below meth c H locs cells slots Q (F0 m pc ls st) :=
  va_callv hr G.2.2.2 (fun q _ h => gIn G hA q h) (gIn G hA) (fun u t H1 locs1 ht hvm hw hB hz1 hk1 hS => kk u H1 locs1 hw (gBack G ht hB hS))
theorem g_doneR {n : Nat} {own : String} {a : Array Value} {post : Nat → St → Prop} (G : gS w SL σ A s H0 H locs) (hA : ∀ q, H0.size ≤ q → A q) (hr : va_Run p l e R s m args below meth c H locs cells slots 0 0 (F0 m pc ls st) rest (gQr w SL H.size post a) (gA w SL.length H.size)) (kk : ∀ (r : Nat) (σ1 : St) (H1 : Heap) (locs1 : List Loc), post r σ1 → gS w SL σ1 A s H0 H1 locs1 → W p l e R s m args below meth c H1 locs1 cells slots Q (F0 m (pc + 3) ls (.ref (gad w r) :: rest))) : W p l e R s m args below meth c H locs cells slots Q (F0 m pc ls st) :=
  va_callr hr G.2.2.2 (fun q _ h => gIn G hA q h) (gIn G hA) (fun u a t H1 locs1 ht hvm hw hB hz1 hk1 hS => by
    obtain ⟨h1, h2⟩ := hB
    subst h1
    exact kk u.1 u.2 H1 locs1 hw (gBack G ht h2 hS))
theorem g_callVi (hexec : p.tables.exec = Jvm.exec) (hb : c.code = cc) (hml : c.maxLocals = nL) (hts : ∀ w ∈ wsL_law, w.before args s = true) {own : String} (hown : s.vm.findClass own = some m.cls) (hN : gNw s) (hA : ∀ q, H0.size ≤ q → A q) (G : gS w SL σ A s H0 H locs) {y : MethodName} {bytes : ByteArray} {maxL n index : Nat} {ret : Option FieldType} {rm : Room} (As : List Value) {post : Int → St → Prop} {k ci N : Nat} {cs : List Nat} {C : String} {T : u_T} (hM : Met l y (Cond.code y bytes maxL ret :: wsL_law) rm (gPc w SL σ H.size (.ref (gad w k) :: As)) (gQi w SL H.size post) 0 0 (gA w SL.length H.size)) (hsh : SL[k]? = some (1, ci, cs)) (hc : vwCl[ci]? = some (C, T, N)) (h1 : Cond.methodLink own index y ∈ wsL_law) (h2 : Cond.instanceMethod y ∈ wsL_law) (h3 : Cond.selects C y y ∈ wsL_law) (h4 : Cond.initialized C ∈ wsL_law) (h5 : Cond.code y bytes maxL ret ∈ wsL_law) (hd : y.cls = C ∧ y.cls ≠ "java/lang/invoke/MethodHandle" ∧ y.cls ≠ "java/lang/invoke/VarHandle" ∧ (parseMethodDescriptor y.desc).map (fun d => d.parameters.length) = some n) (hR : rm.cells = 0 ∧ rm.slots = 0 ∧ rm.frames + 1 ≤ R.frames ∧ 8 + (maxL + 11) + rm.locals ≤ R.locals) (hn : As.length = n) (hsz : ls.size = nL) (hst : (rest.map fun v => v.category).sum ≤ 8) (hstk : st = As.reverse ++ .ref (gad w k) :: rest) (hdg : decode cc pc = .ok (.invokevirtual index, 3)) (hf : cells ≤ R.cells ∧ slots ≤ R.slots)
    (kk : ∀ (r : Int) (σ1 : St) (H1 : Heap) (locs1 : List Loc), post r σ1 → gS w SL σ1 A s H0 H1 locs1 → W p l e R s m args below meth c H1 locs1 cells slots Q (F0 m (pc + 3) ls (.int (iz r) :: rest))) : W p l e R s m args below meth c H locs cells slots Q (F0 m pc ls st) :=
  g_doneI (n := n) (own := own) G hA (va_runV (As := As) (rest := rest) ⟨hexec, hb, hml, hown, hts⟩ hM (cwV n hts (gGood h1 h2 h3 h4 h5) rfl hR.1 hR.2.1 hd ⟨hR.2.2.1, hR.2.2.2⟩) (gPreV G hN hsh hc) rfl hn hsz hstk (lv_room hst) hdg ⟨hf.1, hf.2⟩) kk
theorem g_callVl (hexec : p.tables.exec = Jvm.exec) (hb : c.code = cc) (hml : c.maxLocals = nL) (hts : ∀ w ∈ wsL_law, w.before args s = true) {own : String} (hown : s.vm.findClass own = some m.cls) (hN : gNw s) (hA : ∀ q, H0.size ≤ q → A q) (G : gS w SL σ A s H0 H locs) {y : MethodName} {bytes : ByteArray} {maxL n index : Nat} {ret : Option FieldType} {rm : Room} (As : List Value) {post : Int → St → Prop} {k ci N : Nat} {cs : List Nat} {C : String} {T : u_T} (hM : Met l y (Cond.code y bytes maxL ret :: wsL_law) rm (gPc w SL σ H.size (.ref (gad w k) :: As)) (gQl w SL H.size post) 0 0 (gA w SL.length H.size)) (hsh : SL[k]? = some (1, ci, cs)) (hc : vwCl[ci]? = some (C, T, N)) (h1 : Cond.methodLink own index y ∈ wsL_law) (h2 : Cond.instanceMethod y ∈ wsL_law) (h3 : Cond.selects C y y ∈ wsL_law) (h4 : Cond.initialized C ∈ wsL_law) (h5 : Cond.code y bytes maxL ret ∈ wsL_law) (hd : y.cls = C ∧ y.cls ≠ "java/lang/invoke/MethodHandle" ∧ y.cls ≠ "java/lang/invoke/VarHandle" ∧ (parseMethodDescriptor y.desc).map (fun d => d.parameters.length) = some n) (hR : rm.cells = 0 ∧ rm.slots = 0 ∧ rm.frames + 1 ≤ R.frames ∧ 8 + (maxL + 11) + rm.locals ≤ R.locals) (hn : As.length = n) (hsz : ls.size = nL) (hst : (rest.map fun v => v.category).sum ≤ 8) (hstk : st = As.reverse ++ .ref (gad w k) :: rest) (hdg : decode cc pc = .ok (.invokevirtual index, 3)) (hf : cells ≤ R.cells ∧ slots ≤ R.slots)
    (kk : ∀ (r : Int) (σ1 : St) (H1 : Heap) (locs1 : List Loc), post r σ1 → gS w SL σ1 A s H0 H1 locs1 → W p l e R s m args below meth c H1 locs1 cells slots Q (F0 m (pc + 3) ls (.long (lz r) :: rest))) : W p l e R s m args below meth c H locs cells slots Q (F0 m pc ls st) :=
  g_doneL (n := n) (own := own) G hA (va_runV (As := As) (rest := rest) ⟨hexec, hb, hml, hown, hts⟩ hM (cwV n hts (gGood h1 h2 h3 h4 h5) rfl hR.1 hR.2.1 hd ⟨hR.2.2.1, hR.2.2.2⟩) (gPreV G hN hsh hc) rfl hn hsz hstk (lv_room hst) hdg ⟨hf.1, hf.2⟩) kk
theorem g_callVv (hexec : p.tables.exec = Jvm.exec) (hb : c.code = cc) (hml : c.maxLocals = nL) (hts : ∀ w ∈ wsL_law, w.before args s = true) {own : String} (hown : s.vm.findClass own = some m.cls) (hN : gNw s) (hA : ∀ q, H0.size ≤ q → A q) (G : gS w SL σ A s H0 H locs) {y : MethodName} {bytes : ByteArray} {maxL n index : Nat} {ret : Option FieldType} {rm : Room} (As : List Value) {post : St → Prop} {k ci N : Nat} {cs : List Nat} {C : String} {T : u_T} (hM : Met l y (Cond.code y bytes maxL ret :: wsL_law) rm (gPc w SL σ H.size (.ref (gad w k) :: As)) (gQv w SL H.size post) 0 0 (gA w SL.length H.size)) (hsh : SL[k]? = some (1, ci, cs)) (hc : vwCl[ci]? = some (C, T, N)) (h1 : Cond.methodLink own index y ∈ wsL_law) (h2 : Cond.instanceMethod y ∈ wsL_law) (h3 : Cond.selects C y y ∈ wsL_law) (h4 : Cond.initialized C ∈ wsL_law) (h5 : Cond.code y bytes maxL ret ∈ wsL_law) (hd : y.cls = C ∧ y.cls ≠ "java/lang/invoke/MethodHandle" ∧ y.cls ≠ "java/lang/invoke/VarHandle" ∧ (parseMethodDescriptor y.desc).map (fun d => d.parameters.length) = some n) (hR : rm.cells = 0 ∧ rm.slots = 0 ∧ rm.frames + 1 ≤ R.frames ∧ 8 + (maxL + 11) + rm.locals ≤ R.locals) (hn : As.length = n) (hsz : ls.size = nL) (hst : (rest.map fun v => v.category).sum ≤ 8) (hstk : st = As.reverse ++ .ref (gad w k) :: rest) (hdg : decode cc pc = .ok (.invokevirtual index, 3)) (hf : cells ≤ R.cells ∧ slots ≤ R.slots)
    (kk : ∀ (σ1 : St) (H1 : Heap) (locs1 : List Loc), post σ1 → gS w SL σ1 A s H0 H1 locs1 → W p l e R s m args below meth c H1 locs1 cells slots Q (F0 m (pc + 3) ls (rest))) : W p l e R s m args below meth c H locs cells slots Q (F0 m pc ls st) :=
  g_doneV (n := n) (own := own) G hA (va_runV (As := As) (rest := rest) ⟨hexec, hb, hml, hown, hts⟩ hM (cwV n hts (gGood h1 h2 h3 h4 h5) rfl hR.1 hR.2.1 hd ⟨hR.2.2.1, hR.2.2.2⟩) (gPreV G hN hsh hc) rfl hn hsz hstk (lv_room hst) hdg ⟨hf.1, hf.2⟩) kk
theorem g_callVr (hexec : p.tables.exec = Jvm.exec) (hb : c.code = cc) (hml : c.maxLocals = nL) (hts : ∀ w ∈ wsL_law, w.before args s = true) {own : String} (hown : s.vm.findClass own = some m.cls) (hN : gNw s) (hA : ∀ q, H0.size ≤ q → A q) (G : gS w SL σ A s H0 H locs) {y : MethodName} {bytes : ByteArray} {maxL n index : Nat} {ret : Option FieldType} {rm : Room} (As : List Value) {post : Nat → St → Prop} {k ci N : Nat} {cs : List Nat} {C : String} {T : u_T} (hM : Met l y (Cond.code y bytes maxL ret :: wsL_law) rm (gPc w SL σ H.size (.ref (gad w k) :: As)) (gQr w SL H.size post) 0 0 (gA w SL.length H.size)) (hsh : SL[k]? = some (1, ci, cs)) (hc : vwCl[ci]? = some (C, T, N)) (h1 : Cond.methodLink own index y ∈ wsL_law) (h2 : Cond.instanceMethod y ∈ wsL_law) (h3 : Cond.selects C y y ∈ wsL_law) (h4 : Cond.initialized C ∈ wsL_law) (h5 : Cond.code y bytes maxL ret ∈ wsL_law) (hd : y.cls = C ∧ y.cls ≠ "java/lang/invoke/MethodHandle" ∧ y.cls ≠ "java/lang/invoke/VarHandle" ∧ (parseMethodDescriptor y.desc).map (fun d => d.parameters.length) = some n) (hR : rm.cells = 0 ∧ rm.slots = 0 ∧ rm.frames + 1 ≤ R.frames ∧ 8 + (maxL + 11) + rm.locals ≤ R.locals) (hn : As.length = n) (hsz : ls.size = nL) (hst : (rest.map fun v => v.category).sum ≤ 8) (hstk : st = As.reverse ++ .ref (gad w k) :: rest) (hdg : decode cc pc = .ok (.invokevirtual index, 3)) (hf : cells ≤ R.cells ∧ slots ≤ R.slots)
    (kk : ∀ (r : Nat) (σ1 : St) (H1 : Heap) (locs1 : List Loc), post r σ1 → gS w SL σ1 A s H0 H1 locs1 → W p l e R s m args below meth c H1 locs1 cells slots Q (F0 m (pc + 3) ls (.ref (gad w r) :: rest))) : W p l e R s m args below meth c H locs cells slots Q (F0 m pc ls st) :=
  g_doneR (n := n) (own := own) G hA (va_runV (As := As) (rest := rest) ⟨hexec, hb, hml, hown, hts⟩ hM (cwV n hts (gGood h1 h2 h3 h4 h5) rfl hR.1 hR.2.1 hd ⟨hR.2.2.1, hR.2.2.2⟩) (gPreV G hN hsh hc) rfl hn hsz hstk (lv_room hst) hdg ⟨hf.1, hf.2⟩) kk
theorem g_callSi (hexec : p.tables.exec = Jvm.exec) (hb : c.code = cc) (hml : c.maxLocals = nL) (hts : ∀ w ∈ wsL_law, w.before args s = true) {own : String} (hown : s.vm.findClass own = some m.cls) (hN : gNw s) (hA : ∀ q, H0.size ≤ q → A q) (G : gS w SL σ A s H0 H locs) {y : MethodName} {bytes : ByteArray} {maxL n index : Nat} {ret : Option FieldType} {rm : Room} (As : List Value) {post : Int → St → Prop} (hM : Met l y (Cond.code y bytes maxL ret :: wsL_law) rm (gPc w SL σ H.size As) (gQi w SL H.size post) 0 0 (gA w SL.length H.size)) (h1 : Cond.methodLink own index y ∈ wsL_law) (h2 : Cond.static y ∈ wsL_law) (h4 : Cond.initialized y.cls ∈ wsL_law) (h5 : Cond.code y bytes maxL ret ∈ wsL_law) (hd : y.cls ≠ "java/lang/invoke/MethodHandle" ∧ y.cls ≠ "java/lang/invoke/VarHandle" ∧ (parseMethodDescriptor y.desc).map (fun d => d.parameters.length) = some n) (hR : rm.cells = 0 ∧ rm.slots = 0 ∧ rm.frames + 1 ≤ R.frames ∧ 8 + (maxL + 11) + rm.locals ≤ R.locals) (hn : As.length = n) (hsz : ls.size = nL) (hst : (rest.map fun v => v.category).sum ≤ 8) (hstk : st = As.reverse ++ rest) (hdg : decode cc pc = .ok (.invokestatic index, 3)) (hf : cells ≤ R.cells ∧ slots ≤ R.slots)
    (kk : ∀ (r : Int) (σ1 : St) (H1 : Heap) (locs1 : List Loc), post r σ1 → gS w SL σ1 A s H0 H1 locs1 → W p l e R s m args below meth c H1 locs1 cells slots Q (F0 m (pc + 3) ls (.int (iz r) :: rest))) : W p l e R s m args below meth c H locs cells slots Q (F0 m pc ls st) :=
  g_doneI (n := n) (own := own) G hA (va_runS (As := As) (rest := rest) ⟨hexec, hb, hml, hown, hts⟩ hM (va_cwS n hts (gGoodS h1 h2 h4 h5) rfl hR.1 hR.2.1 hd ⟨hR.2.2.1, hR.2.2.2⟩) (gPreS G hN) rfl hn hsz hstk (lv_room hst) hdg ⟨hf.1, hf.2⟩) kk
theorem g_callSl (hexec : p.tables.exec = Jvm.exec) (hb : c.code = cc) (hml : c.maxLocals = nL) (hts : ∀ w ∈ wsL_law, w.before args s = true) {own : String} (hown : s.vm.findClass own = some m.cls) (hN : gNw s) (hA : ∀ q, H0.size ≤ q → A q) (G : gS w SL σ A s H0 H locs) {y : MethodName} {bytes : ByteArray} {maxL n index : Nat} {ret : Option FieldType} {rm : Room} (As : List Value) {post : Int → St → Prop} (hM : Met l y (Cond.code y bytes maxL ret :: wsL_law) rm (gPc w SL σ H.size As) (gQl w SL H.size post) 0 0 (gA w SL.length H.size)) (h1 : Cond.methodLink own index y ∈ wsL_law) (h2 : Cond.static y ∈ wsL_law) (h4 : Cond.initialized y.cls ∈ wsL_law) (h5 : Cond.code y bytes maxL ret ∈ wsL_law) (hd : y.cls ≠ "java/lang/invoke/MethodHandle" ∧ y.cls ≠ "java/lang/invoke/VarHandle" ∧ (parseMethodDescriptor y.desc).map (fun d => d.parameters.length) = some n) (hR : rm.cells = 0 ∧ rm.slots = 0 ∧ rm.frames + 1 ≤ R.frames ∧ 8 + (maxL + 11) + rm.locals ≤ R.locals) (hn : As.length = n) (hsz : ls.size = nL) (hst : (rest.map fun v => v.category).sum ≤ 8) (hstk : st = As.reverse ++ rest) (hdg : decode cc pc = .ok (.invokestatic index, 3)) (hf : cells ≤ R.cells ∧ slots ≤ R.slots)
    (kk : ∀ (r : Int) (σ1 : St) (H1 : Heap) (locs1 : List Loc), post r σ1 → gS w SL σ1 A s H0 H1 locs1 → W p l e R s m args below meth c H1 locs1 cells slots Q (F0 m (pc + 3) ls (.long (lz r) :: rest))) : W p l e R s m args below meth c H locs cells slots Q (F0 m pc ls st) :=
  g_doneL (n := n) (own := own) G hA (va_runS (As := As) (rest := rest) ⟨hexec, hb, hml, hown, hts⟩ hM (va_cwS n hts (gGoodS h1 h2 h4 h5) rfl hR.1 hR.2.1 hd ⟨hR.2.2.1, hR.2.2.2⟩) (gPreS G hN) rfl hn hsz hstk (lv_room hst) hdg ⟨hf.1, hf.2⟩) kk
theorem g_callNi (hexec : p.tables.exec = Jvm.exec) (hb : c.code = cc) (hml : c.maxLocals = nL) (hts : ∀ w ∈ wsL_law, w.before args s = true) {own : String} (hown : s.vm.findClass own = some m.cls) (hN : gNw s) (hA : ∀ q, H0.size ≤ q → A q) (G : gS w SL σ A s H0 H locs) {y : MethodName} {bytes : ByteArray} {maxL n index : Nat} {ret : Option FieldType} {rm : Room} (As : List Value) {post : Int → St → Prop} {host : String} (hM : Met l y (Cond.code y bytes maxL ret :: wsL_law) rm (gPc w SL σ H.size As) (gQi w SL H.size post) 0 0 (gA w SL.length H.size)) (h1 : (own, index, y, host) ∈ gNl) (h2 : Cond.static y ∈ wsL_law) (h4 : Cond.initialized y.cls ∈ wsL_law) (h5 : Cond.code y bytes maxL ret ∈ wsL_law) (hd : y.cls ≠ "java/lang/invoke/MethodHandle" ∧ y.cls ≠ "java/lang/invoke/VarHandle" ∧ (parseMethodDescriptor y.desc).map (fun d => d.parameters.length) = some n) (hR : rm.cells = 0 ∧ rm.slots = 0 ∧ rm.frames + 1 ≤ R.frames ∧ 8 + (maxL + 11) + rm.locals ≤ R.locals) (hn : As.length = n) (hsz : ls.size = nL) (hst : (rest.map fun v => v.category).sum ≤ 8) (hstk : st = As.reverse ++ rest) (hdg : decode cc pc = .ok (.invokestatic index, 3)) (hf : cells ≤ R.cells ∧ slots ≤ R.slots)
    (kk : ∀ (r : Int) (σ1 : St) (H1 : Heap) (locs1 : List Loc), post r σ1 → gS w SL σ1 A s H0 H1 locs1 → W p l e R s m args below meth c H1 locs1 cells slots Q (F0 m (pc + 3) ls (.int (iz r) :: rest))) : W p l e R s m args below meth c H locs cells slots Q (F0 m pc ls st) :=
  g_doneI (n := n) (own := own) G hA (va_runSN (As := As) (rest := rest) ⟨hexec, hb, hml, hown, hts⟩ hM ⟨va_cnB n hts (gGoodC h5) rfl hR.1 hR.2.1 (hN _ h1) (hts _ h4) hd ⟨hR.2.2.1, hR.2.2.2⟩, hts _ h2, trivial⟩ (gPreS G hN) rfl hn hsz hstk (lv_room hst) hdg ⟨hf.1, hf.2⟩) kk
theorem g_callNl (hexec : p.tables.exec = Jvm.exec) (hb : c.code = cc) (hml : c.maxLocals = nL) (hts : ∀ w ∈ wsL_law, w.before args s = true) {own : String} (hown : s.vm.findClass own = some m.cls) (hN : gNw s) (hA : ∀ q, H0.size ≤ q → A q) (G : gS w SL σ A s H0 H locs) {y : MethodName} {bytes : ByteArray} {maxL n index : Nat} {ret : Option FieldType} {rm : Room} (As : List Value) {post : Int → St → Prop} {host : String} (hM : Met l y (Cond.code y bytes maxL ret :: wsL_law) rm (gPc w SL σ H.size As) (gQl w SL H.size post) 0 0 (gA w SL.length H.size)) (h1 : (own, index, y, host) ∈ gNl) (h2 : Cond.static y ∈ wsL_law) (h4 : Cond.initialized y.cls ∈ wsL_law) (h5 : Cond.code y bytes maxL ret ∈ wsL_law) (hd : y.cls ≠ "java/lang/invoke/MethodHandle" ∧ y.cls ≠ "java/lang/invoke/VarHandle" ∧ (parseMethodDescriptor y.desc).map (fun d => d.parameters.length) = some n) (hR : rm.cells = 0 ∧ rm.slots = 0 ∧ rm.frames + 1 ≤ R.frames ∧ 8 + (maxL + 11) + rm.locals ≤ R.locals) (hn : As.length = n) (hsz : ls.size = nL) (hst : (rest.map fun v => v.category).sum ≤ 8) (hstk : st = As.reverse ++ rest) (hdg : decode cc pc = .ok (.invokestatic index, 3)) (hf : cells ≤ R.cells ∧ slots ≤ R.slots)
    (kk : ∀ (r : Int) (σ1 : St) (H1 : Heap) (locs1 : List Loc), post r σ1 → gS w SL σ1 A s H0 H1 locs1 → W p l e R s m args below meth c H1 locs1 cells slots Q (F0 m (pc + 3) ls (.long (lz r) :: rest))) : W p l e R s m args below meth c H locs cells slots Q (F0 m pc ls st) :=
  g_doneL (n := n) (own := own) G hA (va_runSN (As := As) (rest := rest) ⟨hexec, hb, hml, hown, hts⟩ hM ⟨va_cnB n hts (gGoodC h5) rfl hR.1 hR.2.1 (hN _ h1) (hts _ h4) hd ⟨hR.2.2.1, hR.2.2.2⟩, hts _ h2, trivial⟩ (gPreS G hN) rfl hn hsz hstk (lv_room hst) hdg ⟨hf.1, hf.2⟩) kk
end GCALL
end
section
def gSL : List Sh := [(1, 6, [4, 13, 51, 53, 55, 64, 0, 0]), (1, 5, [5, 7, 9, 11, 0]), (1, 4, [6]), (0, 100, []), (1, 4, [8]), (0, 6, []), (1, 4, [10]), (0, 48, []), (1, 4, [12]), (0, 6, []), (1, 1, [14, 0, 0]), (2, 4, [15, 24, 33, 42]), (1, 5, [16, 18, 20, 22, 0]), (1, 4, [17]), (0, 100, []), (1, 4, [19]), (0, 6, []), (1, 4, [21]), (0, 48, []), (1, 4, [23]), (0, 6, []), (1, 5, [25, 27, 29, 31, 0]), (1, 4, [26]), (0, 100, []), (1, 4, [28]), (0, 6, []), (1, 4, [30]), (0, 48, []), (1, 4, [32]), (0, 6, []), (1, 5, [34, 36, 38, 40, 0]), (1, 4, [35]), (0, 100, []), (1, 4, [37]), (0, 6, []), (1, 4, [39]), (0, 48, []), (1, 4, [41]), (0, 6, []), (1, 5, [43, 45, 47, 49, 0]), (1, 4, [44]), (0, 100, []), (1, 4, [46]), (0, 6, []), (1, 4, [48]), (0, 48, []), (1, 4, [50]), (0, 6, []), (1, 4, [52]), (0, 8, []), (1, 4, [54]), (0, 3, []), (1, 2, [4, 56, 58, 60, 62]), (1, 4, [57]), (0, 101, []), (1, 4, [59]), (0, 101, []), (1, 4, [61]), (0, 101, []), (1, 0, [63]), (0, 5454, []), (1, 3, [4, 55, 65, 67, 69, 71, 73, 75, 77, 79, 81, 0, 0, 0, 0, 0]), (1, 4, [66]), (0, 100, []), (1, 4, [68]), (0, 100, []), (1, 4, [70]), (0, 100, []), (1, 4, [72]), (0, 100, []), (1, 4, [74]), (0, 100, []), (1, 4, [76]), (0, 100, []), (1, 4, [78]), (0, 100, []), (1, 4, [80]), (0, 100, []), (1, 4, [82]), (0, 100, []), (1, 7, [84, 85, 0, 86, 0, 87, 88, 89, 90, 91, 92, 93, 0, 0, 0, 0, 1]), (0, 161, []), (0, 644, []), (0, 8, []), (0, 3, []), (0, 5454, []), (0, 100, []), (0, 100, []), (0, 100, []), (0, 100, []), (0, 100, [])]
theorem sh_0 : gSL[0]? = some (1, 6, [4, 13, 51, 53, 55, 64, 0, 0]) := rfl
theorem sh_1 : gSL[1]? = some (1, 5, [5, 7, 9, 11, 0]) := rfl
theorem sh_2 : gSL[2]? = some (1, 4, [6]) := rfl
theorem sh_3 : gSL[3]? = some (0, 100, []) := rfl
theorem sh_4 : gSL[4]? = some (1, 4, [8]) := rfl
theorem sh_5 : gSL[5]? = some (0, 6, []) := rfl
theorem sh_6 : gSL[6]? = some (1, 4, [10]) := rfl
theorem sh_7 : gSL[7]? = some (0, 48, []) := rfl
theorem sh_8 : gSL[8]? = some (1, 4, [12]) := rfl
theorem sh_9 : gSL[9]? = some (0, 6, []) := rfl
theorem sh_10 : gSL[10]? = some (1, 1, [14, 0, 0]) := rfl
theorem sh_11 : gSL[11]? = some (2, 4, [15, 24, 33, 42]) := rfl
theorem sh_12 : gSL[12]? = some (1, 5, [16, 18, 20, 22, 0]) := rfl
theorem sh_13 : gSL[13]? = some (1, 4, [17]) := rfl
theorem sh_14 : gSL[14]? = some (0, 100, []) := rfl
theorem sh_15 : gSL[15]? = some (1, 4, [19]) := rfl
theorem sh_16 : gSL[16]? = some (0, 6, []) := rfl
theorem sh_17 : gSL[17]? = some (1, 4, [21]) := rfl
theorem sh_18 : gSL[18]? = some (0, 48, []) := rfl
theorem sh_19 : gSL[19]? = some (1, 4, [23]) := rfl
theorem sh_20 : gSL[20]? = some (0, 6, []) := rfl
theorem sh_21 : gSL[21]? = some (1, 5, [25, 27, 29, 31, 0]) := rfl
theorem sh_22 : gSL[22]? = some (1, 4, [26]) := rfl
theorem sh_23 : gSL[23]? = some (0, 100, []) := rfl
theorem sh_24 : gSL[24]? = some (1, 4, [28]) := rfl
theorem sh_25 : gSL[25]? = some (0, 6, []) := rfl
theorem sh_26 : gSL[26]? = some (1, 4, [30]) := rfl
theorem sh_27 : gSL[27]? = some (0, 48, []) := rfl
theorem sh_28 : gSL[28]? = some (1, 4, [32]) := rfl
theorem sh_29 : gSL[29]? = some (0, 6, []) := rfl
theorem sh_30 : gSL[30]? = some (1, 5, [34, 36, 38, 40, 0]) := rfl
theorem sh_31 : gSL[31]? = some (1, 4, [35]) := rfl
theorem sh_32 : gSL[32]? = some (0, 100, []) := rfl
theorem sh_33 : gSL[33]? = some (1, 4, [37]) := rfl
theorem sh_34 : gSL[34]? = some (0, 6, []) := rfl
theorem sh_35 : gSL[35]? = some (1, 4, [39]) := rfl
theorem sh_36 : gSL[36]? = some (0, 48, []) := rfl
theorem sh_37 : gSL[37]? = some (1, 4, [41]) := rfl
theorem sh_38 : gSL[38]? = some (0, 6, []) := rfl
theorem sh_39 : gSL[39]? = some (1, 5, [43, 45, 47, 49, 0]) := rfl
theorem sh_40 : gSL[40]? = some (1, 4, [44]) := rfl
theorem sh_41 : gSL[41]? = some (0, 100, []) := rfl
theorem sh_42 : gSL[42]? = some (1, 4, [46]) := rfl
theorem sh_43 : gSL[43]? = some (0, 6, []) := rfl
theorem sh_44 : gSL[44]? = some (1, 4, [48]) := rfl
theorem sh_45 : gSL[45]? = some (0, 48, []) := rfl
theorem sh_46 : gSL[46]? = some (1, 4, [50]) := rfl
theorem sh_47 : gSL[47]? = some (0, 6, []) := rfl
theorem sh_48 : gSL[48]? = some (1, 4, [52]) := rfl
theorem sh_49 : gSL[49]? = some (0, 8, []) := rfl
theorem sh_50 : gSL[50]? = some (1, 4, [54]) := rfl
theorem sh_51 : gSL[51]? = some (0, 3, []) := rfl
theorem sh_52 : gSL[52]? = some (1, 2, [4, 56, 58, 60, 62]) := rfl
theorem sh_53 : gSL[53]? = some (1, 4, [57]) := rfl
theorem sh_54 : gSL[54]? = some (0, 101, []) := rfl
theorem sh_55 : gSL[55]? = some (1, 4, [59]) := rfl
theorem sh_56 : gSL[56]? = some (0, 101, []) := rfl
theorem sh_57 : gSL[57]? = some (1, 4, [61]) := rfl
theorem sh_58 : gSL[58]? = some (0, 101, []) := rfl
theorem sh_59 : gSL[59]? = some (1, 0, [63]) := rfl
theorem sh_60 : gSL[60]? = some (0, 5454, []) := rfl
theorem sh_61 : gSL[61]? = some (1, 3, [4, 55, 65, 67, 69, 71, 73, 75, 77, 79, 81, 0, 0, 0, 0, 0]) := rfl
theorem sh_62 : gSL[62]? = some (1, 4, [66]) := rfl
theorem sh_63 : gSL[63]? = some (0, 100, []) := rfl
theorem sh_64 : gSL[64]? = some (1, 4, [68]) := rfl
theorem sh_65 : gSL[65]? = some (0, 100, []) := rfl
theorem sh_66 : gSL[66]? = some (1, 4, [70]) := rfl
theorem sh_67 : gSL[67]? = some (0, 100, []) := rfl
theorem sh_68 : gSL[68]? = some (1, 4, [72]) := rfl
theorem sh_69 : gSL[69]? = some (0, 100, []) := rfl
theorem sh_70 : gSL[70]? = some (1, 4, [74]) := rfl
theorem sh_71 : gSL[71]? = some (0, 100, []) := rfl
theorem sh_72 : gSL[72]? = some (1, 4, [76]) := rfl
theorem sh_73 : gSL[73]? = some (0, 100, []) := rfl
theorem sh_74 : gSL[74]? = some (1, 4, [78]) := rfl
theorem sh_75 : gSL[75]? = some (0, 100, []) := rfl
theorem sh_76 : gSL[76]? = some (1, 4, [80]) := rfl
theorem sh_77 : gSL[77]? = some (0, 100, []) := rfl
theorem sh_78 : gSL[78]? = some (1, 4, [82]) := rfl
theorem sh_79 : gSL[79]? = some (0, 100, []) := rfl
theorem sh_80 : gSL[80]? = some (1, 7, [84, 85, 0, 86, 0, 87, 88, 89, 90, 91, 92, 93, 0, 0, 0, 0, 1]) := rfl
theorem sh_81 : gSL[81]? = some (0, 161, []) := rfl
theorem sh_82 : gSL[82]? = some (0, 644, []) := rfl
theorem sh_83 : gSL[83]? = some (0, 8, []) := rfl
theorem sh_84 : gSL[84]? = some (0, 3, []) := rfl
theorem sh_85 : gSL[85]? = some (0, 5454, []) := rfl
theorem sh_86 : gSL[86]? = some (0, 100, []) := rfl
theorem sh_87 : gSL[87]? = some (0, 100, []) := rfl
theorem sh_88 : gSL[88]? = some (0, 100, []) := rfl
theorem sh_89 : gSL[89]? = some (0, 100, []) := rfl
theorem sh_90 : gSL[90]? = some (0, 100, []) := rfl
def isRow (k n : Nat) : Prop := gSL[k]? = some (1, 4, [k + 1 + 3]) ∧ gSL[k + 1]? = some (0, n, [])
def isSt (b : Nat) : Prop := gSL[b]? = some (1, 5, [b + 1 + 3, b + 3 + 3, b + 5 + 3, b + 7 + 3, 0]) ∧ isRow (b + 1) 100 ∧ isRow (b + 3) 6 ∧ isRow (b + 5) 48 ∧ isRow (b + 7) 6
theorem gSL_small : ∀ q ∈ gSL, q.2.1 < 2147483648 := by
  have h : gSL.all (fun q => decide (q.2.1 < 2147483648)) = true := by decide +kernel
  intro q hq
  exact of_decide_eq_true (List.all_eq_true.mp h q hq)
theorem isRow_lt {k n : Nat} (h : isRow k n) : n < 2147483648 := gSL_small _ (List.mem_of_getElem? h.2)
theorem st_1 : isSt 1 := ⟨rfl, ⟨rfl, rfl⟩, ⟨rfl, rfl⟩, ⟨rfl, rfl⟩, ⟨rfl, rfl⟩⟩
theorem st_12 : isSt 12 := ⟨rfl, ⟨rfl, rfl⟩, ⟨rfl, rfl⟩, ⟨rfl, rfl⟩, ⟨rfl, rfl⟩⟩
theorem st_21 : isSt 21 := ⟨rfl, ⟨rfl, rfl⟩, ⟨rfl, rfl⟩, ⟨rfl, rfl⟩, ⟨rfl, rfl⟩⟩
theorem st_30 : isSt 30 := ⟨rfl, ⟨rfl, rfl⟩, ⟨rfl, rfl⟩, ⟨rfl, rfl⟩, ⟨rfl, rfl⟩⟩
theorem st_39 : isSt 39 := ⟨rfl, ⟨rfl, rfl⟩, ⟨rfl, rfl⟩, ⟨rfl, rfl⟩, ⟨rfl, rfl⟩⟩
theorem ring_at {i : Int} (h0 : 0 ≤ i) (h1 : i < 4) : ([15, 24, 33, 42] : List Nat).getD i.toNat 2 = (12 + 9 * i.toNat) + 3 := by
  obtain ⟨j, rfl⟩ := Int.eq_ofNat_of_zero_le h0
  have : j < 4 := by omega
  rcases (show j = 0 ∨ j = 1 ∨ j = 2 ∨ j = 3 by omega) with rfl | rfl | rfl | rfl <;> rfl
end
section
-- the text and the rules as mathematics: length, bytes, sizes, elements, stop bytes, where they mean something
abbrev Gr : Type := Int × (Int → Int) × (Int → Int) × (Int → Int → Int) × (Int → Int)
abbrev gl (g : Gr) : Int := g.1
abbrev gt (g : Gr) : Int → Int := g.2.1
abbrev gs (g : Gr) : Int → Int := g.2.2.1
abbrev ge (g : Gr) : Int → Int → Int := g.2.2.2.1
abbrev gp (g : Gr) : Int → Int := g.2.2.2.2
def nrm (L : Int) (t sz : Int → Int) (el : Int → Int → Int) (sp : Int → Int) : Gr :=
  (L, fun p => if 0 ≤ p ∧ p < L then t p else 0, fun r => if 0 ≤ r ∧ r < 6 then sz r else 0, fun r i => if 0 ≤ r ∧ r < 6 ∧ 0 ≤ i ∧ i < sz r then el r i else 0, fun r => if 0 ≤ r ∧ r < 6 then sp r else 0)
def cg (σ : St) (b : Nat) : Gr := nrm (σ b 4) (σ (b + 2)) (σ (b + 4)) (fun r i => σ (b + 6) (r * 8 + i)) (σ (b + 8))
def mg (f : Int → Int) (o : Int) : Gr := nrm (f o) (fun p => f (o + 1 + p)) (fun r => f (o + 101 + r)) (fun r i => f (o + 107 + 8 * r + i)) (fun r => f (o + 155 + r))
def gWF (g : Gr) : Prop := (0 ≤ gl g ∧ gl g ≤ 100) ∧ (∀ p, 0 ≤ p → p < gl g → 32 ≤ gt g p ∧ gt g p ≤ 126) ∧ ∀ r, 0 ≤ r → r < 6 → (0 ≤ gs g r ∧ gs g r ≤ 8) ∧ (gp g r = -1 ∨ (32 ≤ gp g r ∧ gp g r ≤ 126)) ∧ (∀ i, 0 ≤ i → i < gs g r → 32 ≤ ge g r i ∧ ge g r i ≤ 126) ∧ (0 < gs g r → ge g r 0 ≠ 126 ∧ ¬ (65 ≤ ge g r 0 ∧ ge g r 0 ≤ 70))
theorem cg_L (σ : St) (b : Nat) : gl (cg σ b) = σ b 4 := rfl
theorem cg_t {σ : St} {b : Nat} {p : Int} (h0 : 0 ≤ p) (h1 : p < σ b 4) : gt (cg σ b) p = σ (b + 2) p := if_pos ⟨h0, h1⟩
theorem cg_s {σ : St} {b : Nat} {r : Int} (h0 : 0 ≤ r) (h1 : r < 6) : gs (cg σ b) r = σ (b + 4) r := if_pos ⟨h0, h1⟩
theorem cg_p {σ : St} {b : Nat} {r : Int} (h0 : 0 ≤ r) (h1 : r < 6) : gp (cg σ b) r = σ (b + 8) r := if_pos ⟨h0, h1⟩
theorem cg_e {σ : St} {b : Nat} {r i : Int} (h0 : 0 ≤ r) (h1 : r < 6) (h2 : 0 ≤ i) (h3 : i < σ (b + 4) r) : ge (cg σ b) r i = σ (b + 6) (r * 8 + i) := if_pos ⟨h0, h1, h2, h3⟩
theorem cg_congr {σ τ : St} {b : Nat} (h : ∀ q, b ≤ q → q ≤ b + 8 → τ q = σ q) : cg τ b = cg σ b := by
  unfold cg
  rw [h b (by omega) (by omega), h (b + 2) (by omega) (by omega), h (b + 4) (by omega) (by omega), h (b + 6) (by omega) (by omega), h (b + 8) (by omega) (by omega)]
theorem mg_L (f : Int → Int) (o : Int) : gl (mg f o) = f o := rfl
theorem mg_t {f : Int → Int} {o p : Int} (h0 : 0 ≤ p) (h1 : p < f o) : gt (mg f o) p = f (o + 1 + p) := if_pos ⟨h0, h1⟩
theorem mg_s {f : Int → Int} {o r : Int} (h0 : 0 ≤ r) (h1 : r < 6) : gs (mg f o) r = f (o + 101 + r) := if_pos ⟨h0, h1⟩
theorem mg_p {f : Int → Int} {o r : Int} (h0 : 0 ≤ r) (h1 : r < 6) : gp (mg f o) r = f (o + 155 + r) := if_pos ⟨h0, h1⟩
theorem mg_e {f : Int → Int} {o r i : Int} (h0 : 0 ≤ r) (h1 : r < 6) (h2 : 0 ≤ i) (h3 : i < f (o + 101 + r)) : ge (mg f o) r i = f (o + 107 + 8 * r + i) := if_pos ⟨h0, h1, h2, h3⟩
-- runs of digits or letters
def rn (g : Gr) (lo hi : Int) : Nat → Int → Int
  | 0, p => p
  | n + 1, p => if p < gl g ∧ lo ≤ gt g p ∧ gt g p ≤ hi then rn g lo hi n (p + 1) else p
def RE (g : Gr) (lo hi p : Int) : Int := rn g lo hi (gl g - p).toNat p
def runE (g : Gr) (lo hi p : Int) : Int := if p < RE g lo hi p then RE g lo hi p else -1
theorem RE_stop {g : Gr} {lo hi p : Int} (h : ¬ (p < gl g ∧ lo ≤ gt g p ∧ gt g p ≤ hi)) : RE g lo hi p = p := by
  unfold RE
  cases (gl g - p).toNat with
  | zero => rfl
  | succ n => exact if_neg h
theorem RE_step {g : Gr} {lo hi p : Int} (h : p < gl g ∧ lo ≤ gt g p ∧ gt g p ≤ hi) : RE g lo hi p = RE g lo hi (p + 1) := by
  unfold RE
  obtain ⟨n, hn⟩ : ∃ n : Nat, (gl g - p).toNat = n + 1 := ⟨(gl g - p).toNat - 1, by omega⟩
  rw [hn, show (gl g - (p + 1)).toNat = n by omega]
  exact if_pos h
theorem RE_ge (g : Gr) (lo hi : Int) : ∀ (n : Nat) (p : Int), n = (gl g - p).toNat → p ≤ RE g lo hi p := by
  intro n
  induction n with
  | zero =>
    intro p hp
    rw [RE_stop (by omega)]
    omega
  | succ n ih =>
    intro p hp
    by_cases h : p < gl g ∧ lo ≤ gt g p ∧ gt g p ≤ hi
    · rw [RE_step h]
      have := ih (p + 1) (by omega)
      omega
    · rw [RE_stop h]
      omega
theorem RE_le (g : Gr) (lo hi : Int) : ∀ (n : Nat) (p : Int), n = (gl g - p).toNat → p ≤ gl g → RE g lo hi p ≤ gl g := by
  intro n
  induction n with
  | zero =>
    intro p hp hl
    rw [RE_stop (by omega)]
    omega
  | succ n ih =>
    intro p hp hl
    by_cases h : p < gl g ∧ lo ≤ gt g p ∧ gt g p ≤ hi
    · rw [RE_step h]
      exact ih (p + 1) (by omega) (by omega)
    · rw [RE_stop h]
      omega
theorem runE_no {g : Gr} {lo hi p : Int} (h : ¬ (p < gl g ∧ lo ≤ gt g p ∧ gt g p ≤ hi)) : runE g lo hi p = -1 := by
  unfold runE
  rw [RE_stop h, if_neg (by omega)]
theorem runE_yes {g : Gr} {lo hi p : Int} (h : p < gl g ∧ lo ≤ gt g p ∧ gt g p ≤ hi) : runE g lo hi p = RE g lo hi (p + 1) := by
  unfold runE
  have := RE_ge g lo hi _ (p + 1) rfl
  rw [RE_step h, if_pos (by omega)]
/-- the run from the next place on, out of the next place's entry -/
theorem runE_next {g : Gr} {lo hi p : Int} (h0 : 0 ≤ p) (h : p < gl g ∧ lo ≤ gt g p ∧ gt g p ≤ hi) : runE g lo hi p = if runE g lo hi (p + 1) = -1 then p + 1 else runE g lo hi (p + 1) := by
  rw [runE_yes h]
  have h1 := RE_ge g lo hi _ (p + 1) rfl
  by_cases h2 : p + 1 < gl g ∧ lo ≤ gt g (p + 1) ∧ gt g (p + 1) ≤ hi
  · rw [runE_yes h2, RE_step h2]
    have h3 := RE_ge g lo hi _ (p + 1 + 1) rfl
    by_cases h4 : RE g lo hi (p + 1 + 1) = -1
    · exact absurd h4 (by omega)
    · rw [if_neg h4]
  · rw [runE_no h2, RE_stop h2, if_pos rfl]
-- the table of ends: T r i p is where rule r ends whose elements from i on begin at p
abbrev Tb : Type := Int → Int → Int → Int
def first (T : Tb) (p : Int) : Int := if T 0 0 p ≠ -1 then 0 else if T 1 0 p ≠ -1 then 1 else if T 2 0 p ≠ -1 then 2 else if T 3 0 p ≠ -1 then 3 else if T 4 0 p ≠ -1 then 4 else if T 5 0 p ≠ -1 then 5 else -1
/-- v is the lowest rule above y that matches at p, or -1 -/
def isF (T : Tb) (p y v : Int) : Prop := (v = -1 ∧ ∀ r, y < r → r < 6 → T r 0 p = -1) ∨ (y < v ∧ v < 6 ∧ T v 0 p ≠ -1 ∧ ∀ r, y < r → r < v → T r 0 p = -1)
theorem isF_first {T : Tb} {p v : Int} (h : isF T p (-1) v) : v = first T p := by
  unfold first
  rcases h with ⟨h1, h2⟩ | ⟨h1, h2, h3, h4⟩
  · simp [h2 0 (by decide) (by decide), h2 1 (by decide) (by decide), h2 2 (by decide) (by decide), h2 3 (by decide) (by decide), h2 4 (by decide) (by decide), h2 5 (by decide) (by decide), h1]
  · rcases (show v = 0 ∨ v = 1 ∨ v = 2 ∨ v = 3 ∨ v = 4 ∨ v = 5 by omega) with e | e | e | e | e | e <;> subst e
    · simp [h3]
    · simp [h3, h4 0 (by decide) (by decide)]
    · simp [h3, h4 0 (by decide) (by decide), h4 1 (by decide) (by decide)]
    · simp [h3, h4 0 (by decide) (by decide), h4 1 (by decide) (by decide), h4 2 (by decide) (by decide)]
    · simp [h3, h4 0 (by decide) (by decide), h4 1 (by decide) (by decide), h4 2 (by decide) (by decide), h4 3 (by decide) (by decide)]
    · simp [h3, h4 0 (by decide) (by decide), h4 1 (by decide) (by decide), h4 2 (by decide) (by decide), h4 3 (by decide) (by decide), h4 4 (by decide) (by decide)]
theorem first_isF (T : Tb) (p : Int) : isF T p (-1) (first T p) := by
  unfold first isF
  by_cases h0 : T 0 0 p = -1
  · by_cases h1 : T 1 0 p = -1
    · by_cases h2 : T 2 0 p = -1
      · by_cases h3 : T 3 0 p = -1
        · by_cases h4 : T 4 0 p = -1
          · by_cases h5 : T 5 0 p = -1
            · left
              simp only [h0, h1, h2, h3, h4, h5, ne_eq, not_true_eq_false, if_false]
              refine ⟨trivial, fun r a b => ?_⟩
              rcases (show r = 0 ∨ r = 1 ∨ r = 2 ∨ r = 3 ∨ r = 4 ∨ r = 5 by omega) with e | e | e | e | e | e <;> subst e <;> assumption
            · right
              simp only [h0, h1, h2, h3, h4, h5, ne_eq, not_true_eq_false, not_false_eq_true, if_false, if_true]
              refine ⟨by decide, by decide, trivial, fun r a b => ?_⟩
              rcases (show r = 0 ∨ r = 1 ∨ r = 2 ∨ r = 3 ∨ r = 4 by omega) with e | e | e | e | e <;> subst e <;> assumption
          · right
            simp only [h0, h1, h2, h3, h4, ne_eq, not_true_eq_false, not_false_eq_true, if_false, if_true]
            refine ⟨by decide, by decide, trivial, fun r a b => ?_⟩
            rcases (show r = 0 ∨ r = 1 ∨ r = 2 ∨ r = 3 by omega) with e | e | e | e <;> subst e <;> assumption
        · right
          simp only [h0, h1, h2, h3, ne_eq, not_true_eq_false, not_false_eq_true, if_false, if_true]
          refine ⟨by decide, by decide, trivial, fun r a b => ?_⟩
          rcases (show r = 0 ∨ r = 1 ∨ r = 2 by omega) with e | e | e <;> subst e <;> assumption
      · right
        simp only [h0, h1, h2, ne_eq, not_true_eq_false, not_false_eq_true, if_false, if_true]
        refine ⟨by decide, by decide, trivial, fun r a b => ?_⟩
        rcases (show r = 0 ∨ r = 1 by omega) with e | e <;> subst e <;> assumption
    · right
      simp only [h0, h1, ne_eq, not_true_eq_false, not_false_eq_true, if_false, if_true]
      refine ⟨by decide, by decide, trivial, fun r a b => ?_⟩
      rcases (show r = 0 by omega) with e
      subst e
      assumption
  · right
    simp only [h0, ne_eq, not_false_eq_true, if_true]
    exact ⟨by decide, by decide, trivial, fun r a b => by omega⟩
theorem first_rng (T : Tb) (p : Int) : first T p = -1 ∨ (0 ≤ first T p ∧ first T p < 6 ∧ T (first T p) 0 p ≠ -1) := by
  rcases first_isF T p with h | h
  · exact Or.inl h.1
  · exact Or.inr ⟨by omega, h.2.1, h.2.2.1⟩
def eE (g : Gr) (T : Tb) (e p : Int) : Int := if 65 ≤ e ∧ e ≤ 70 then T (e - 65) 0 p else if e = 35 then runE g 48 57 p else if e = 64 then runE g 97 122 p else if p < gl g ∧ gt g p = e then p + 1 else -1
def rhs (g : Gr) (T : Tb) (r i p : Int) : Int := if i = gs g r then (if i = 0 then -1 else p) else if ge g r i = 126 then (if T r (i + 1) p ≠ -1 then T r (i + 1) p else if first T p ≠ -1 then T r i (T (first T p) 0 p) else if p = gl g ∨ gt g p = gp g r then -1 else T r i (p + 1)) else (if eE g T (ge g r i) p = -1 then -1 else T r (i + 1) (eE g T (ge g r i) p))
def GoodAt (g : Gr) (T : Tb) (p : Int) : Prop := ∀ r, 0 ≤ r → r < 6 → ∀ i, 0 ≤ i → i ≤ gs g r → T r i p = rhs g T r i p
def Good (g : Gr) (T : Tb) : Prop := ∀ p, 0 ≤ p → p ≤ gl g → GoodAt g T p
-- the class's table
def ct (σ : St) : Tb := fun r i p => σ 60 ((r * 9 + i) * 101 + p)
def tget (σ : St) (r i p : Int) : Int := if 0 ≤ p then ct σ r i p else -1
def MB (σ : St) : Prop := (∀ j, -1 ≤ σ 54 j ∧ σ 54 j ≤ 100) ∧ (∀ j, -1 ≤ σ 56 j ∧ σ 56 j ≤ 100) ∧ (∀ j, -1 ≤ σ 58 j ∧ σ 58 j ≤ 5) ∧ (∀ j, -1 ≤ σ 60 j ∧ σ 60 j ≤ 100)
theorem cell_inj {r i p r2 i2 p2 : Int} (h : (r * 9 + i) * 101 + p = (r2 * 9 + i2) * 101 + p2) (hi : 0 ≤ i ∧ i ≤ 8) (hp : 0 ≤ p ∧ p ≤ 100) (hi2 : 0 ≤ i2 ∧ i2 ≤ 8) (hp2 : 0 ≤ p2 ∧ p2 ≤ 100) : r = r2 ∧ i = i2 ∧ p = p2 := by
  have h1 : r * 9 + i = r2 * 9 + i2 := by omega
  exact ⟨by omega, by omega, by omega⟩
-- the reference's table
def mt (σ : St) : Tb := fun r i p => σ 85 (101 * (9 * r + i) + p)
def M8 (σ : St) : Prop := ∀ j, -1 ≤ σ 85 j ∧ σ 85 j ≤ 100
theorem m7_t {f : Int → Int} {p : Int} (h0 : 0 ≤ p) (h1 : p < f 0) : gt (mg f 0) p = f (1 + p) := by
  rw [mg_t h0 h1, Int.zero_add]
theorem m7_s {f : Int → Int} {r : Int} (h0 : 0 ≤ r) (h1 : r < 6) : gs (mg f 0) r = f (101 + r) := by
  rw [mg_s h0 h1, Int.zero_add]
theorem m7_p {f : Int → Int} {r : Int} (h0 : 0 ≤ r) (h1 : r < 6) : gp (mg f 0) r = f (155 + r) := by
  rw [mg_p h0 h1, Int.zero_add]
theorem m7_e {f : Int → Int} {r i : Int} (h0 : 0 ≤ r) (h1 : r < 6) (h2 : 0 ≤ i) (h3 : i < f (101 + r)) : ge (mg f 0) r i = f (107 + 8 * r + i) := by
  rw [mg_e h0 h1 h2 (by rw [Int.zero_add]; exact h3), Int.zero_add]
theorem mcell_inj {r i p r2 i2 p2 : Int} (h : 101 * (9 * r + i) + p = 101 * (9 * r2 + i2) + p2) (hi : 0 ≤ i ∧ i ≤ 8) (hp : 0 ≤ p ∧ p ≤ 100) (hi2 : 0 ≤ i2 ∧ i2 ≤ 8) (hp2 : 0 ≤ p2 ∧ p2 ≤ 100) : r = r2 ∧ i = i2 ∧ p = p2 := by
  have h1 : 9 * r + i = 9 * r2 + i2 := by omega
  exact ⟨by omega, by omega, by omega⟩
end
section
theorem runE_b {g : Gr} {lo hi p : Int} (h1 : p ≤ gl g) : runE g lo hi p = -1 ∨ (p < runE g lo hi p ∧ runE g lo hi p ≤ gl g) := by
  unfold runE
  by_cases h : p < RE g lo hi p
  · rw [if_pos h]
    exact Or.inr ⟨h, RE_le g lo hi _ p rfl h1⟩
  · rw [if_neg h]
    exact Or.inl rfl
theorem eE_b {g : Gr} {T : Tb} {e p : Int} (hp : p ≤ gl g) (hT : ∀ r, 0 ≤ r → r < 6 → T r 0 p = -1 ∨ (p < T r 0 p ∧ T r 0 p ≤ gl g)) : eE g T e p = -1 ∨ (p < eE g T e p ∧ eE g T e p ≤ gl g) := by
  unfold eE
  by_cases a : 65 ≤ e ∧ e ≤ 70
  · rw [if_pos a]
    exact hT _ (by omega) (by omega)
  · rw [if_neg a]
    by_cases b : e = 35
    · rw [if_pos b]
      exact runE_b hp
    · rw [if_neg b]
      by_cases c : e = 64
      · rw [if_pos c]
        exact runE_b hp
      · rw [if_neg c]
        by_cases d : p < gl g ∧ gt g p = e
        · rw [if_pos d]
          exact Or.inr ⟨by omega, by omega⟩
        · rw [if_neg d]
          exact Or.inl rfl
theorem eE_nr {g : Gr} {T : Tb} {e p : Int} (hp : p ≤ gl g) (he : ¬ (65 ≤ e ∧ e ≤ 70)) : eE g T e p = -1 ∨ (p < eE g T e p ∧ eE g T e p ≤ gl g) := by
  have h : eE g T e p = eE g (fun _ _ _ => -1) e p := by
    unfold eE
    rw [if_neg he, if_neg he]
  rw [h]
  exact eE_b hp (fun _ _ _ => Or.inl rfl)
/-- ends lie behind their starts, as far down as the table is good -/
theorem bnd {g : Gr} {T : Tb} (hW : gWF g) {p : Int} (hp : -1 ≤ p) (hG : ∀ q, p < q → q ≤ gl g → GoodAt g T q) : ∀ (n : Nat) (q : Int), (gl g - q).toNat ≤ n → p < q → q ≤ gl g → (∀ r, 0 ≤ r → r < 6 → T r 0 q = -1 ∨ (q < T r 0 q ∧ T r 0 q ≤ gl g)) ∧ (∀ r, 0 ≤ r → r < 6 → ∀ i, 0 ≤ i → i ≤ gs g r → T r i q = -1 ∨ (q ≤ T r i q ∧ T r i q ≤ gl g)) := by
  obtain ⟨hL, ht, hR⟩ := hW
  intro n
  induction n with
  | zero =>
    intro q hn hq hl
    have hq : q = gl g := by omega
    have hA : ∀ r, 0 ≤ r → r < 6 → T r 0 q = -1 := by
      intro r a b
      obtain ⟨⟨z0, z1⟩, z2, z3, z4⟩ := hR r a b
      rw [hG q (by omega) hl r a b 0 (by decide) z0]
      unfold rhs
      by_cases c : (0 : Int) = gs g r
      · rw [if_pos c, if_pos rfl]
      · obtain ⟨f1, f2⟩ := z4 (by omega)
        rw [if_neg c, if_neg f1]
        rcases eE_nr (g := g) (T := T) hl f2 with d | d
        · rw [if_pos d]
        · omega
    refine ⟨fun r a b => Or.inl (hA r a b), fun r a b => ?_⟩
    obtain ⟨⟨z0, z1⟩, z2, z3, z4⟩ := hR r a b
    have key : ∀ (m : Nat) (i : Int), (gs g r - i).toNat = m → 0 ≤ i → i ≤ gs g r → T r i q = -1 ∨ (q ≤ T r i q ∧ T r i q ≤ gl g) := by
      intro m
      induction m with
      | zero =>
        intro i hm h0 hi
        have hi : i = gs g r := by omega
        rw [hG q (by omega) hl r a b i h0 (by omega)]
        unfold rhs
        rw [if_pos hi]
        by_cases c : i = 0
        · rw [if_pos c]; exact Or.inl rfl
        · rw [if_neg c]; exact Or.inr ⟨by omega, by omega⟩
      | succ m ih =>
        intro i hm h0 hi
        rw [hG q (by omega) hl r a b i h0 hi]
        unfold rhs
        rw [if_neg (by omega)]
        by_cases w : ge g r i = 126
        · rw [if_pos w]
          by_cases x : T r (i + 1) q ≠ -1
          · rw [if_pos x]
            exact ih (i + 1) (by omega) (by omega) (by omega)
          · rw [if_neg x]
            rcases first_rng T q with y | ⟨y1, y2, y3⟩
            · have yn : ¬ first T q ≠ -1 := fun z => z y
              rw [if_neg yn, if_pos (Or.inl hq)]
              exact Or.inl rfl
            · exact absurd (hA _ y1 y2) y3
        · rw [if_neg w]
          rcases eE_b (g := g) (T := T) (e := ge g r i) hl (fun k c d => Or.inl (hA k c d)) with d | d
          · rw [if_pos d]; exact Or.inl rfl
          · omega
    exact fun i c d => key _ i rfl c d
  | succ n ih =>
    intro q hn hq hl
    have hA : ∀ r, 0 ≤ r → r < 6 → T r 0 q = -1 ∨ (q < T r 0 q ∧ T r 0 q ≤ gl g) := by
      intro r a b
      obtain ⟨⟨z0, z1⟩, z2, z3, z4⟩ := hR r a b
      rw [hG q (by omega) hl r a b 0 (by decide) z0]
      unfold rhs
      by_cases c : (0 : Int) = gs g r
      · rw [if_pos c, if_pos rfl]; exact Or.inl rfl
      · obtain ⟨f1, f2⟩ := z4 (by omega)
        rw [if_neg c, if_neg f1]
        rcases eE_nr (g := g) (T := T) hl f2 with d | d
        · rw [if_pos d]; exact Or.inl rfl
        · have un : ¬ eE g T (ge g r 0) q = -1 := by omega
          rw [if_neg un]
          rcases (ih _ (by omega) (by omega) d.2).2 r a b (0 + 1) (by omega) (by omega) with x | x
          · exact Or.inl x
          · exact Or.inr ⟨by omega, x.2⟩
    refine ⟨hA, fun r a b => ?_⟩
    obtain ⟨⟨z0, z1⟩, z2, z3, z4⟩ := hR r a b
    have key : ∀ (m : Nat) (i : Int), (gs g r - i).toNat = m → 0 ≤ i → i ≤ gs g r → T r i q = -1 ∨ (q ≤ T r i q ∧ T r i q ≤ gl g) := by
      intro m
      induction m with
      | zero =>
        intro i hm h0 hi
        have hi : i = gs g r := by omega
        rw [hG q (by omega) hl r a b i h0 (by omega)]
        unfold rhs
        rw [if_pos hi]
        by_cases c : i = 0
        · rw [if_pos c]; exact Or.inl rfl
        · rw [if_neg c]; exact Or.inr ⟨by omega, by omega⟩
      | succ m ih2 =>
        intro i hm h0 hi
        rw [hG q (by omega) hl r a b i h0 hi]
        unfold rhs
        rw [if_neg (by omega)]
        by_cases w : ge g r i = 126
        · rw [if_pos w]
          by_cases x : T r (i + 1) q ≠ -1
          · rw [if_pos x]
            exact ih2 (i + 1) (by omega) (by omega) (by omega)
          · rw [if_neg x]
            rcases first_rng T q with y | ⟨y1, y2, y3⟩
            · have yn : ¬ first T q ≠ -1 := fun z => z y
              rw [if_neg yn]
              by_cases v : q = gl g ∨ gt g q = gp g r
              · rw [if_pos v]; exact Or.inl rfl
              · rw [if_neg v]
                rcases (ih (q + 1) (by omega) (by omega) (by omega)).2 r a b i h0 hi with u | u
                · exact Or.inl u
                · exact Or.inr ⟨by omega, u.2⟩
            · have yn : first T q ≠ -1 := by omega
              rw [if_pos yn]
              rcases hA _ y1 y2 with u | u
              · exact absurd u y3
              · rcases (ih _ (by omega) (by omega) u.2).2 r a b i h0 hi with v | v
                · exact Or.inl v
                · exact Or.inr ⟨by omega, v.2⟩
        · rw [if_neg w]
          rcases eE_b (g := g) (T := T) (e := ge g r i) hl hA with d | d
          · rw [if_pos d]; exact Or.inl rfl
          · have un : ¬ eE g T (ge g r i) q = -1 := by omega
            rw [if_neg un]
            rcases (ih _ (by omega) (by omega) d.2).2 r a b (i + 1) (by omega) (by omega) with u | u
            · exact Or.inl u
            · exact Or.inr ⟨by omega, u.2⟩
    exact fun i c d => key _ i rfl c d
theorem first_congr {T T' : Tb} {q : Int} (h : ∀ r, 0 ≤ r → r < 6 → T' r 0 q = T r 0 q) : first T' q = first T q := by
  unfold first
  rw [h 0 (by decide) (by decide), h 1 (by decide) (by decide), h 2 (by decide) (by decide), h 3 (by decide) (by decide), h 4 (by decide) (by decide), h 5 (by decide) (by decide)]
theorem eE_congr {g : Gr} {T T' : Tb} {e q : Int} (h : ∀ r, 0 ≤ r → r < 6 → T' r 0 q = T r 0 q) : eE g T' e q = eE g T e q := by
  unfold eE
  by_cases a : 65 ≤ e ∧ e ≤ 70
  · rw [if_pos a, if_pos a]
    exact h _ (by omega) (by omega)
  · rw [if_neg a, if_neg a]
theorem goodAt_congr {g : Gr} {T T' : Tb} (hW : gWF g) {q : Int} (hq0 : 0 ≤ q) (hq : q ≤ gl g) (hA : ∀ r i x, 0 ≤ r → r < 6 → 0 ≤ i → i ≤ 8 → q ≤ x → x ≤ gl g → T' r i x = T r i x) (hB : ∀ r, 0 ≤ r → r < 6 → T r 0 q = -1 ∨ (q < T r 0 q ∧ T r 0 q ≤ gl g)) (h : GoodAt g T q) : GoodAt g T' q := by
  obtain ⟨hL, ht, hR⟩ := hW
  intro r a b i c d
  obtain ⟨⟨z0, z1⟩, z2, z3, z4⟩ := hR r a b
  have h0 : ∀ r, 0 ≤ r → r < 6 → T' r 0 q = T r 0 q := fun r a b => hA r 0 q a b (by decide) (by decide) (Int.le_refl q) hq
  rw [hA r i q a b c (by omega) (Int.le_refl q) hq, h r a b i c d]
  unfold rhs
  by_cases e : i = gs g r
  · rw [if_pos e, if_pos e]
  · rw [if_neg e, if_neg e]
    by_cases w : ge g r i = 126
    · rw [if_pos w, if_pos w, hA r (i + 1) q a b (by omega) (by omega) (Int.le_refl q) hq, first_congr h0]
      by_cases x : T r (i + 1) q ≠ -1
      · rw [if_pos x, if_pos x]
      · rw [if_neg x, if_neg x]
        rcases first_rng T q with y | ⟨y1, y2, y3⟩
        · have yn : ¬ first T q ≠ -1 := fun z => z y
          rw [if_neg yn, if_neg yn]
          by_cases v : q = gl g ∨ gt g q = gp g r
          · rw [if_pos v, if_pos v]
          · rw [if_neg v, if_neg v, hA r i (q + 1) a b c (by omega) (by omega) (by omega)]
        · have yn : first T q ≠ -1 := by omega
          rw [if_pos yn, if_pos yn, h0 _ y1 y2]
          rcases hB _ y1 y2 with u | u
          · exact absurd u y3
          · rw [hA r i _ a b c (by omega) (by omega) u.2]
    · rw [if_neg w, if_neg w, eE_congr h0]
      rcases eE_b (g := g) (T := T) (e := ge g r i) hq hB with u | u
      · rw [if_pos u, if_pos u]
      · have un : ¬ eE g T (ge g r i) q = -1 := by omega
        rw [if_neg un, if_neg un, hA r (i + 1) _ a b (by omega) (by omega) (by omega) u.2]
/-- two good tables agree where they mean something -/
theorem good_uniq {g : Gr} {T T' : Tb} (hW : gWF g) (h : Good g T) (h' : Good g T') : ∀ (n : Nat) (p : Int), (gl g - p).toNat ≤ n → 0 ≤ p → p ≤ gl g → ∀ r, 0 ≤ r → r < 6 → ∀ i, 0 ≤ i → i ≤ gs g r → T' r i p = T r i p := by
  obtain ⟨hL, ht, hR⟩ := id hW
  have BD := bnd hW (p := -1) (by decide) (fun q a b => h q (by omega) b)
  have step : ∀ p, 0 ≤ p → p ≤ gl g → (∀ x, p < x → x ≤ gl g → ∀ r, 0 ≤ r → r < 6 → ∀ i, 0 ≤ i → i ≤ gs g r → T' r i x = T r i x) → ∀ r, 0 ≤ r → r < 6 → ∀ i, 0 ≤ i → i ≤ gs g r → T' r i p = T r i p := by
    intro p h0 hl hx
    have hB := (BD _ p (Nat.le_refl _) (by omega) hl).1
    have z0 : ∀ r, 0 ≤ r → r < 6 → T' r 0 p = T r 0 p := by
      intro r a b
      obtain ⟨⟨z0, z1⟩, z2, z3, z4⟩ := hR r a b
      rw [h p h0 hl r a b 0 (by decide) z0, h' p h0 hl r a b 0 (by decide) z0]
      unfold rhs
      by_cases c : (0 : Int) = gs g r
      · rw [if_pos c, if_pos c]
      · obtain ⟨f1, f2⟩ := z4 (by omega)
        have ind : eE g T' (ge g r 0) p = eE g T (ge g r 0) p := by
          unfold eE
          rw [if_neg f2, if_neg f2]
        rw [if_neg c, if_neg c, if_neg f1, if_neg f1, ind]
        rcases eE_nr (g := g) (T := T) (e := ge g r 0) hl f2 with d | d
        · rw [if_pos d, if_pos d]
        · have un : ¬ eE g T (ge g r 0) p = -1 := by omega
          rw [if_neg un, if_neg un]
          exact hx _ d.1 d.2 r a b _ (by omega) (by omega)
    intro r a b
    obtain ⟨⟨y0, y1⟩, y2, y3, y4⟩ := hR r a b
    have key : ∀ (m : Nat) (i : Int), (gs g r - i).toNat = m → 0 ≤ i → i ≤ gs g r → T' r i p = T r i p := by
      intro m
      induction m with
      | zero =>
        intro i hm c d
        rw [h p h0 hl r a b i c d, h' p h0 hl r a b i c d]
        unfold rhs
        have e : i = gs g r := by omega
        rw [if_pos e, if_pos e]
      | succ m ih =>
        intro i hm c d
        rw [h p h0 hl r a b i c d, h' p h0 hl r a b i c d]
        unfold rhs
        have e : ¬ i = gs g r := by omega
        rw [if_neg e, if_neg e, first_congr z0, eE_congr z0, ih (i + 1) (by omega) (by omega) (by omega)]
        by_cases w : ge g r i = 126
        · rw [if_pos w, if_pos w]
          by_cases x : T r (i + 1) p ≠ -1
          · rw [if_pos x, if_pos x]
          · rw [if_neg x, if_neg x]
            rcases first_rng T p with y | ⟨u1, u2, u3⟩
            · have yn : ¬ first T p ≠ -1 := fun z => z y
              rw [if_neg yn, if_neg yn]
              by_cases v : p = gl g ∨ gt g p = gp g r
              · rw [if_pos v, if_pos v]
              · rw [if_neg v, if_neg v]
                exact hx (p + 1) (by omega) (by omega) r a b i c d
            · have yn : first T p ≠ -1 := by omega
              rw [if_pos yn, if_pos yn, z0 _ u1 u2]
              rcases hB _ u1 u2 with u | u
              · exact absurd u u3
              · exact hx _ u.1 u.2 r a b i c d
        · rw [if_neg w, if_neg w]
          rcases eE_b (g := g) (T := T) (e := ge g r i) hl hB with u | u
          · rw [if_pos u, if_pos u]
          · have un : ¬ eE g T (ge g r i) p = -1 := by omega
            rw [if_neg un, if_neg un]
            exact hx _ u.1 u.2 r a b _ (by omega) (by omega)
    exact fun i c d => key _ i rfl c d
  intro n
  induction n with
  | zero => intro p hn h0 hl; exact step p h0 hl (fun x a b => by omega)
  | succ n ih => intro p hn h0 hl; exact step p h0 hl (fun x a b => ih x (by omega) (by omega) b)
-- the walk of a node's pattern, as a machine: a state is (element, place)
def nx (g : Gr) (T : Tb) (r : Int) (x : Int × Int) : Int × Int :=
  if gs g r ≤ x.1 then x
  else if ge g r x.1 = 126 then (if T r (x.1 + 1) x.2 ≠ -1 then (x.1 + 1, x.2) else if first T x.2 ≠ -1 then (x.1, T (first T x.2) 0 x.2) else (x.1, x.2 + 1))
  else (x.1 + 1, eE g T (ge g r x.1) x.2)
/-- the rule of the nested island that begins at a state, or -1 -/
def emc (g : Gr) (T : Tb) (r : Int) (x : Int × Int) : Int :=
  if gs g r ≤ x.1 then -1
  else if ge g r x.1 = 126 then (if T r (x.1 + 1) x.2 ≠ -1 then -1 else first T x.2)
  else if 65 ≤ ge g r x.1 ∧ ge g r x.1 ≤ 70 then ge g r x.1 - 65 else -1
/-- 1 if a byte of water is taken at a state -/
def emw (g : Gr) (T : Tb) (r : Int) (x : Int × Int) : Int :=
  if gs g r ≤ x.1 then 0
  else if ge g r x.1 = 126 then (if T r (x.1 + 1) x.2 ≠ -1 then 0 else if first T x.2 ≠ -1 then 0 else 1)
  else 0
def tr (g : Gr) (T : Tb) (r : Int) (x : Int × Int) : Nat → Int × Int
  | 0 => x
  | n + 1 => nx g T r (tr g T r x n)
def wsum (g : Gr) (T : Tb) (r : Int) (x : Int × Int) : Nat → Int
  | 0 => 0
  | n + 1 => wsum g T r x n + emw g T r (tr g T r x n)
def csum (g : Gr) (T : Tb) (r : Int) (x : Int × Int) : Nat → Int
  | 0 => 0
  | n + 1 => csum g T r x n + if emc g T r (tr g T r x n) = -1 then 0 else 1
theorem tr_add (g : Gr) (T : Tb) (r : Int) (x : Int × Int) (n : Nat) : ∀ m, tr g T r x (n + m) = tr g T r (tr g T r x n) m := by
  intro m
  induction m with
  | zero => rfl
  | succ m ih =>
    show nx g T r (tr g T r x (n + m)) = nx g T r (tr g T r (tr g T r x n) m)
    rw [ih]
theorem wsum_add (g : Gr) (T : Tb) (r : Int) (x : Int × Int) (n : Nat) : ∀ m, wsum g T r x (n + m) = wsum g T r x n + wsum g T r (tr g T r x n) m := by
  intro m
  induction m with
  | zero => show wsum g T r x n = wsum g T r x n + 0; omega
  | succ m ih =>
    show wsum g T r x (n + m) + emw g T r (tr g T r x (n + m)) = wsum g T r x n + (wsum g T r (tr g T r x n) m + emw g T r (tr g T r (tr g T r x n) m))
    rw [ih, tr_add]
    omega
theorem csum_add (g : Gr) (T : Tb) (r : Int) (x : Int × Int) (n : Nat) : ∀ m, csum g T r x (n + m) = csum g T r x n + csum g T r (tr g T r x n) m := by
  intro m
  induction m with
  | zero => show csum g T r x n = csum g T r x n + 0; omega
  | succ m ih =>
    show csum g T r x (n + m) + (if emc g T r (tr g T r x (n + m)) = -1 then 0 else 1) = csum g T r x n + (csum g T r (tr g T r x n) m + (if emc g T r (tr g T r (tr g T r x n) m) = -1 then 0 else 1))
    rw [ih, tr_add]
    omega
/-- what one step does, in a pattern whose rest matches -/
theorem nx_ok {g : Gr} {T : Tb} (hW : gWF g) (hG : Good g T) {r e : Int} (hr : 0 ≤ r ∧ r < 6) {x : Int × Int} (hx : 0 ≤ x.1 ∧ x.1 ≤ gs g r) (hp : 0 ≤ x.2 ∧ x.2 ≤ gl g) (he : T r x.1 x.2 = e) (hne : e ≠ -1) :
    (x.2 ≤ e ∧ e ≤ gl g) ∧ (x.1 < gs g r → (0 ≤ (nx g T r x).1 ∧ (nx g T r x).1 ≤ gs g r) ∧ (x.2 ≤ (nx g T r x).2 ∧ (nx g T r x).2 ≤ gl g) ∧ T r (nx g T r x).1 (nx g T r x).2 = e ∧ x.1 + x.2 < (nx g T r x).1 + (nx g T r x).2 ∧ x.1 ≤ (nx g T r x).1 ∧ (nx g T r x).1 ≤ x.1 + 1 ∧
      (emc g T r x ≠ -1 → 0 ≤ emc g T r x ∧ emc g T r x < 6 ∧ T (emc g T r x) 0 x.2 = (nx g T r x).2 ∧ x.2 < (nx g T r x).2) ∧ (x.1 = 0 → emc g T r x = -1 ∧ emw g T r x = 0 ∧ x.2 < (nx g T r x).2 ∧ (nx g T r x).1 = 1)) := by
  obtain ⟨i, p⟩ := x
  dsimp only at hx hp he ⊢
  obtain ⟨hL, ht, hR⟩ := id hW
  obtain ⟨⟨z0, z1⟩, z2, z3, z4⟩ := hR r hr.1 hr.2
  have BD := bnd hW (p := -1) (by decide) (fun q a b => hG q (by omega) b)
  have hB := BD _ p (Nat.le_refl _) (by omega) hp.2
  have h1 := (hB.2 r hr.1 hr.2 i hx.1 hx.2).resolve_left (fun z => hne (he.symm.trans z))
  rw [he] at h1
  refine ⟨h1, fun hi => ?_⟩
  have eq := hG p hp.1 hp.2 r hr.1 hr.2 i hx.1 hx.2
  rw [he] at eq
  unfold rhs at eq
  rw [if_neg (show ¬ i = gs g r by omega)] at eq
  have ni : ¬ gs g r ≤ i := by omega
  unfold nx emc emw
  dsimp only
  rw [if_neg ni, if_neg ni, if_neg ni]
  by_cases w : ge g r i = 126
  · rw [if_pos w] at eq
    have i0 : i ≠ 0 := fun z => by
      subst z
      exact (z4 (by omega)).1 w
    rw [if_pos w, if_pos w, if_pos w]
    by_cases a : T r (i + 1) p ≠ -1
    · rw [if_pos a] at eq
      rw [if_pos a, if_pos a, if_pos a]
      exact ⟨by dsimp only; omega, by dsimp only; omega, eq.symm, by dsimp only; omega, by dsimp only; omega, by dsimp only; omega, fun z => absurd rfl z, fun z => absurd z i0⟩
    · rw [if_neg a] at eq
      rw [if_neg a, if_neg a, if_neg a]
      rcases first_rng T p with f | ⟨f1, f2, f3⟩
      · have fn : ¬ first T p ≠ -1 := fun z => z f
        rw [if_neg fn] at eq
        rw [if_neg fn]
        by_cases v : p = gl g ∨ gt g p = gp g r
        · rw [if_pos v] at eq
          exact absurd eq hne
        · rw [if_neg v] at eq
          exact ⟨by dsimp only; omega, by dsimp only; omega, eq.symm, by dsimp only; omega, by dsimp only; omega, by dsimp only; omega, fun z => absurd f z, fun z => absurd z i0⟩
      · have fn : first T p ≠ -1 := by omega
        rw [if_pos fn] at eq
        rw [if_pos fn]
        have u := (hB.1 _ f1 f2).resolve_left f3
        exact ⟨by dsimp only; omega, by dsimp only; omega, eq.symm, by dsimp only; omega, by dsimp only; omega, by dsimp only; omega, fun _ => ⟨f1, f2, rfl, u.1⟩, fun z => absurd z i0⟩
  · rw [if_neg w] at eq
    rw [if_neg w, if_neg w, if_neg w]
    have nn : ¬ eE g T (ge g r i) p = -1 := fun z => by
      rw [if_pos z] at eq
      exact hne eq
    rw [if_neg nn] at eq
    have u := (eE_b (g := g) (T := T) (e := ge g r i) hp.2 hB.1).resolve_left nn
    refine ⟨by dsimp only; omega, by dsimp only; omega, eq.symm, by dsimp only; omega, by dsimp only; omega, by dsimp only; omega, fun z => ?_, fun z => ?_⟩
    · by_cases c : 65 ≤ ge g r i ∧ ge g r i ≤ 70
      · rw [if_pos c]
        refine ⟨by omega, by omega, ?_, u.1⟩
        show T (ge g r i - 65) 0 p = eE g T (ge g r i) p
        unfold eE
        rw [if_pos c]
      · rw [if_neg c] at z
        exact absurd rfl z
    · subst z
      rw [if_neg (z4 (by omega)).2]
      exact ⟨rfl, rfl, u.1, rfl⟩
/-- the whole walk of a node (r, s) that ends at e -/
theorem tr_ok {g : Gr} {T : Tb} (hW : gWF g) (hG : Good g T) {r s e : Int} (hr : 0 ≤ r ∧ r < 6) (hs : 0 ≤ s ∧ s ≤ gl g) (he : T r 0 s = e) (hne : e ≠ -1) : ∀ n : Nat, (0 ≤ (tr g T r (0, s) n).1 ∧ (tr g T r (0, s) n).1 ≤ gs g r) ∧ (s ≤ (tr g T r (0, s) n).2 ∧ (tr g T r (0, s) n).2 ≤ e ∧ e ≤ gl g) ∧ T r (tr g T r (0, s) n).1 (tr g T r (0, s) n).2 = e ∧ ((tr g T r (0, s) n).1 < gs g r → (n : Int) + s ≤ (tr g T r (0, s) n).1 + (tr g T r (0, s) n).2) := by
  obtain ⟨hL, ht, hR⟩ := id hW
  obtain ⟨⟨z0, z1⟩, z2, z3, z4⟩ := hR r hr.1 hr.2
  intro n
  induction n with
  | zero =>
    have h := nx_ok hW hG hr (x := (0, s)) ⟨by dsimp only; omega, by dsimp only; omega⟩ hs he hne
    exact ⟨⟨by show (0 : Int) ≤ 0; omega, z0⟩, ⟨Int.le_refl s, h.1⟩, he, fun _ => by show (0 : Int) + s ≤ 0 + s; omega⟩
  | succ n ih =>
    obtain ⟨a1, a2, a3, a4⟩ := ih
    have h := nx_ok hW hG hr a1 ⟨by omega, by omega⟩ a3 hne
    by_cases c : (tr g T r (0, s) n).1 < gs g r
    · obtain ⟨b1, b2, b3, b4, b5, b6, b7, b8⟩ := h.2 c
      have h2 := nx_ok hW hG hr b1 ⟨by omega, b2.2⟩ b3 hne
      refine ⟨b1, ⟨by show s ≤ (nx g T r (tr g T r (0, s) n)).2; omega, h2.1⟩, b3, fun _ => ?_⟩
      show ((n + 1 : Nat) : Int) + s ≤ (nx g T r (tr g T r (0, s) n)).1 + (nx g T r (tr g T r (0, s) n)).2
      have := a4 c
      omega
    · have e : nx g T r (tr g T r (0, s) n) = tr g T r (0, s) n := by
        unfold nx
        rw [if_pos (by omega)]
      have e2 : tr g T r (0, s) (n + 1) = tr g T r (0, s) n := e
      rw [e2]
      exact ⟨a1, a2, a3, fun z => absurd z c⟩
/-- the walk halts, at the island's end -/
theorem tr_halt {g : Gr} {T : Tb} (hW : gWF g) (hG : Good g T) {r s e : Int} (hr : 0 ≤ r ∧ r < 6) (hs : 0 ≤ s ∧ s ≤ gl g) (he : T r 0 s = e) (hne : e ≠ -1) {n : Nat} (hn : 109 ≤ n) : tr g T r (0, s) n = (gs g r, e) := by
  obtain ⟨hL, ht, hR⟩ := id hW
  obtain ⟨⟨z0, z1⟩, z2, z3, z4⟩ := hR r hr.1 hr.2
  obtain ⟨a1, a2, a3, a4⟩ := tr_ok hW hG hr hs he hne n
  have c : (tr g T r (0, s) n).1 = gs g r := by
    by_cases c : (tr g T r (0, s) n).1 < gs g r
    · have := a4 c
      omega
    · omega
  have d : T r (tr g T r (0, s) n).1 (tr g T r (0, s) n).2 = rhs g T r (tr g T r (0, s) n).1 (tr g T r (0, s) n).2 := hG _ (by omega) (by omega) r hr.1 hr.2 _ a1.1 a1.2
  rw [a3] at d
  unfold rhs at d
  rw [if_pos c] at d
  by_cases z : (tr g T r (0, s) n).1 = 0
  · rw [if_pos z] at d
    exact absurd d hne
  · rw [if_neg z] at d
    exact Prod.ext c d.symm
theorem nx_fix {g : Gr} {T : Tb} {r : Int} {x : Int × Int} (h : gs g r ≤ x.1) : ∀ n, tr g T r x n = x := by
  intro n
  induction n with
  | zero => rfl
  | succ n ih =>
    show nx g T r (tr g T r x n) = x
    rw [ih]
    unfold nx
    rw [if_pos h]
theorem sum_fix {g : Gr} {T : Tb} {r : Int} {x : Int × Int} (h : gs g r ≤ x.1) : ∀ n, wsum g T r x n = 0 ∧ csum g T r x n = 0 := by
  intro n
  induction n with
  | zero => exact ⟨rfl, rfl⟩
  | succ n ih =>
    refine ⟨?_, ?_⟩
    · show wsum g T r x n + emw g T r (tr g T r x n) = 0
      rw [nx_fix h, ih.1]
      unfold emw
      rw [if_pos h]
      rfl
    · show csum g T r x n + (if emc g T r (tr g T r x n) = -1 then 0 else 1) = 0
      rw [nx_fix h, ih.2]
      unfold emc
      rw [if_pos h, if_pos rfl]
      rfl
/-- sums over a walk that has halted are the same -/
theorem wsum_halt {g : Gr} {T : Tb} {r : Int} {x : Int × Int} {n m : Nat} (hn : gs g r ≤ (tr g T r x n).1) (hm : gs g r ≤ (tr g T r x m).1) : wsum g T r x n = wsum g T r x m := by
  rcases Nat.le_total n m with h | h
  · obtain ⟨d, rfl⟩ := Nat.exists_eq_add_of_le h
    rw [wsum_add, (sum_fix hn d).1]
    omega
  · obtain ⟨d, rfl⟩ := Nat.exists_eq_add_of_le h
    rw [wsum_add, (sum_fix hm d).1]
    omega
/-- (k, q) is an island that a node (r, s) contains directly -/
def Ch (g : Gr) (T : Tb) (r s k q : Int) : Prop := k ≠ -1 ∧ ∃ n, emc g T r (tr g T r (0, s) n) = k ∧ (tr g T r (0, s) n).2 = q
theorem tr_mono {g : Gr} {T : Tb} (hW : gWF g) (hG : Good g T) {r s e : Int} (hr : 0 ≤ r ∧ r < 6) (hs : 0 ≤ s ∧ s ≤ gl g) (he : T r 0 s = e) (hne : e ≠ -1) (n : Nat) : ∀ d, (tr g T r (0, s) n).2 ≤ (tr g T r (0, s) (n + d)).2 := by
  intro d
  induction d with
  | zero => exact Int.le_refl _
  | succ d ih =>
    obtain ⟨a1, a2, a3, a4⟩ := tr_ok hW hG hr hs he hne (n + d)
    by_cases c : (tr g T r (0, s) (n + d)).1 < gs g r
    · have h := ((nx_ok hW hG hr a1 ⟨by omega, by omega⟩ a3 hne).2 c).2.1.1
      exact Int.le_trans ih h
    · have e : tr g T r (0, s) (n + (d + 1)) = tr g T r (0, s) (n + d) := by
        show nx g T r (tr g T r (0, s) (n + d)) = _
        unfold nx
        rw [if_pos (by omega)]
      rw [e]
      exact ih
/-- a nested island at step n: its interval -/
theorem ch_at {g : Gr} {T : Tb} (hW : gWF g) (hG : Good g T) {r s e : Int} (hr : 0 ≤ r ∧ r < 6) (hs : 0 ≤ s ∧ s ≤ gl g) (he : T r 0 s = e) (hne : e ≠ -1) {n : Nat} (hk : emc g T r (tr g T r (0, s) n) ≠ -1) : 0 ≤ emc g T r (tr g T r (0, s) n) ∧ emc g T r (tr g T r (0, s) n) < 6 ∧ T (emc g T r (tr g T r (0, s) n)) 0 (tr g T r (0, s) n).2 = (tr g T r (0, s) (n + 1)).2 ∧ (tr g T r (0, s) n).2 < (tr g T r (0, s) (n + 1)).2 ∧ s < (tr g T r (0, s) n).2 ∧ (tr g T r (0, s) (n + 1)).2 ≤ e ∧ (tr g T r (0, s) n).1 < gs g r := by
  obtain ⟨a1, a2, a3, a4⟩ := tr_ok hW hG hr hs he hne n
  have c : (tr g T r (0, s) n).1 < gs g r := by
    by_cases c : (tr g T r (0, s) n).1 < gs g r
    · exact c
    · exfalso
      apply hk
      unfold emc
      rw [if_pos (by omega)]
  obtain ⟨b1, b2, b3, b4, b5, b6, b7, b8⟩ := (nx_ok hW hG hr a1 ⟨by omega, by omega⟩ a3 hne).2 c
  obtain ⟨d1, d2, d3, d4⟩ := b7 hk
  refine ⟨d1, d2, d3, d4, ?_, ?_, c⟩
  · cases n with
    | zero => exact absurd (b8 rfl).1 hk
    | succ n =>
      have c0 : (0 : Int) < gs g r := by omega
      have h0 := ((nx_ok hW hG hr (x := (0, s)) ⟨by dsimp only; omega, by dsimp only; omega⟩ hs he hne).2 c0).2.2.2.2.2.2.2 rfl
      have h1 := tr_mono hW hG hr hs he hne 1 n
      rw [Nat.add_comm] at h1
      have h2 : (tr g T r (0, s) 1) = nx g T r (0, s) := rfl
      rw [h2] at h1
      have h3 : s < (nx g T r (0, s)).2 := h0.2.2.1
      omega
  · exact (tr_ok hW hG hr hs he hne (n + 1)).2.1.2.1
theorem ch_apart {g : Gr} {T : Tb} (hW : gWF g) (hG : Good g T) {r s e : Int} (hr : 0 ≤ r ∧ r < 6) (hs : 0 ≤ s ∧ s ≤ gl g) (he : T r 0 s = e) (hne : e ≠ -1) {n m : Nat} (h : n < m) (hk : emc g T r (tr g T r (0, s) n) ≠ -1) : (tr g T r (0, s) n).2 < (tr g T r (0, s) (n + 1)).2 ∧ (tr g T r (0, s) (n + 1)).2 ≤ (tr g T r (0, s) m).2 := by
  refine ⟨(ch_at hW hG hr hs he hne hk).2.2.2.1, ?_⟩
  have := tr_mono hW hG hr hs he hne (n + 1) (m - (n + 1))
  rw [show n + 1 + (m - (n + 1)) = m by omega] at this
  exact this
theorem tg_ok {g : Gr} {T : Tb} (hW : gWF g) (hG : Good g T) {r e : Int} {x : Int × Int} (hr : 0 ≤ r ∧ r < 6) (hx : 0 ≤ x.1 ∧ x.1 ≤ gs g r) (hs : 0 ≤ x.2 ∧ x.2 ≤ gl g) (he : T r x.1 x.2 = e) (hne : e ≠ -1) : ∀ n : Nat, (x.1 ≤ (tr g T r x n).1 ∧ (tr g T r x n).1 ≤ gs g r) ∧ (x.2 ≤ (tr g T r x n).2 ∧ (tr g T r x n).2 ≤ e ∧ e ≤ gl g) ∧ T r (tr g T r x n).1 (tr g T r x n).2 = e := by
  intro n
  induction n with
  | zero =>
    have h := nx_ok hW hG hr hx hs he hne
    exact ⟨⟨Int.le_refl _, hx.2⟩, ⟨Int.le_refl _, h.1⟩, he⟩
  | succ n ih =>
    obtain ⟨a1, a2, a3⟩ := ih
    have h := nx_ok hW hG hr ⟨by omega, a1.2⟩ ⟨by omega, by omega⟩ a3 hne
    by_cases c : (tr g T r x n).1 < gs g r
    · obtain ⟨b1, b2, b3, b4, b5, b6, b7, b8⟩ := h.2 c
      have h2 := nx_ok hW hG hr b1 ⟨by omega, b2.2⟩ b3 hne
      exact ⟨⟨by show x.1 ≤ (nx g T r (tr g T r x n)).1; omega, b1.2⟩, ⟨by show x.2 ≤ (nx g T r (tr g T r x n)).2; omega, h2.1⟩, b3⟩
    · have e : nx g T r (tr g T r x n) = tr g T r x n := by
        unfold nx
        rw [if_pos (by omega)]
      have e2 : tr g T r x (n + 1) = tr g T r x n := e
      rw [e2]
      exact ⟨a1, a2, a3⟩
theorem tg_mono {g : Gr} {T : Tb} (hW : gWF g) (hG : Good g T) {r e : Int} {x : Int × Int} (hr : 0 ≤ r ∧ r < 6) (hx : 0 ≤ x.1 ∧ x.1 ≤ gs g r) (hs : 0 ≤ x.2 ∧ x.2 ≤ gl g) (he : T r x.1 x.2 = e) (hne : e ≠ -1) (n : Nat) : ∀ d, (tr g T r x n).2 ≤ (tr g T r x (n + d)).2 := by
  intro d
  induction d with
  | zero => exact Int.le_refl _
  | succ d ih =>
    obtain ⟨a1, a2, a3⟩ := tg_ok hW hG hr hx hs he hne (n + d)
    by_cases c : (tr g T r x (n + d)).1 < gs g r
    · have h := ((nx_ok hW hG hr ⟨by omega, a1.2⟩ ⟨by omega, by omega⟩ a3 hne).2 c).2.1.1
      exact Int.le_trans ih h
    · have e : tr g T r x (n + (d + 1)) = tr g T r x (n + d) := by
        show nx g T r (tr g T r x (n + d)) = _
        unfold nx
        rw [if_pos (by omega)]
      rw [e]
      exact ih
theorem tg_ch {g : Gr} {T : Tb} (hW : gWF g) (hG : Good g T) {r e : Int} {x : Int × Int} (hr : 0 ≤ r ∧ r < 6) (hx : 0 ≤ x.1 ∧ x.1 ≤ gs g r) (hs : 0 ≤ x.2 ∧ x.2 ≤ gl g) (he : T r x.1 x.2 = e) (hne : e ≠ -1) {n m : Nat} (h : n < m) (hk : emc g T r (tr g T r x n) ≠ -1) : (tr g T r x n).2 < (tr g T r x m).2 := by
  obtain ⟨a1, a2, a3⟩ := tg_ok hW hG hr hx hs he hne n
  have c : (tr g T r x n).1 < gs g r := by
    by_cases c : (tr g T r x n).1 < gs g r
    · exact c
    · exfalso
      apply hk
      unfold emc
      rw [if_pos (by omega)]
  have b := (((nx_ok hW hG hr ⟨by omega, a1.2⟩ ⟨by omega, by omega⟩ a3 hne).2 c).2.2.2.2.2.2.1 hk).2.2.2
  have := tg_mono hW hG hr hx hs he hne (n + 1) (m - (n + 1))
  rw [show n + 1 + (m - (n + 1)) = m by omega] at this
  have b : (tr g T r x n).2 < (tr g T r x (n + 1)).2 := b
  omega
-- what n steps of a node's walk leave in the class's rows
def CW (g : Gr) (T : Tb) (σ0 : St) (j r : Int) (x : Int × Int) (n : Nat) (σ : St) : Prop :=
  (∀ q, q ≠ 73 → q ≠ 75 → q ≠ 77 → q ≠ 79 → σ q = σ0 q) ∧ σ 73 = ui (σ0 73) j (σ0 73 j + wsum g T r x n) ∧
  (∀ k, k < n → emc g T r (tr g T r x k) ≠ -1 → σ 77 (tr g T r x k).2 = emc g T r (tr g T r x k) ∧ σ 79 (tr g T r x k).2 = j) ∧
  (∀ q, (∀ k, k < n → emc g T r (tr g T r x k) ≠ -1 → (tr g T r x k).2 ≠ q) → σ 77 q = σ0 77 q ∧ σ 79 q = σ0 79 q)
theorem ui_ui (f : Int → Int) (i v w : Int) : ui (ui f i v) i w = ui f i w := by
  funext j
  unfold ui
  split <;> rfl
theorem ui_id (f : Int → Int) (i : Int) : ui f i (f i) = f := by
  funext j
  unfold ui
  split
  · next h => rw [h]
  · rfl
theorem CW_0 (g : Gr) (T : Tb) (σ : St) (j r : Int) (x : Int × Int) : CW g T σ j r x 0 σ :=
  ⟨fun _ _ _ _ _ => rfl, by show σ 73 = ui (σ 73) j (σ 73 j + 0); rw [Int.add_zero, ui_id], fun k h => absurd h (Nat.not_lt_zero k), fun q _ => ⟨rfl, rfl⟩⟩
theorem CW_none {g : Gr} {T : Tb} {σ0 σ : St} {j r : Int} {x : Int × Int} {n : Nat} (h : CW g T σ0 j r x n σ) (hc : emc g T r (tr g T r x n) = -1) (hw : emw g T r (tr g T r x n) = 0) : CW g T σ0 j r x (n + 1) σ := by
  obtain ⟨h1, h2, h3, h4⟩ := h
  refine ⟨h1, ?_, fun k hk he => ?_, fun q hq => h4 q (fun k hk he => hq k (by omega) he)⟩
  · show σ 73 = ui (σ0 73) j (σ0 73 j + (wsum g T r x n + emw g T r (tr g T r x n)))
    rw [hw, Int.add_zero]
    exact h2
  · by_cases z : k = n
    · subst z
      exact absurd hc he
    · exact h3 k (by omega) he
theorem CW_water {g : Gr} {T : Tb} {σ0 σ : St} {j r : Int} {x : Int × Int} {n : Nat} (h : CW g T σ0 j r x n σ) (hc : emc g T r (tr g T r x n) = -1) (hw : emw g T r (tr g T r x n) = 1) : CW g T σ0 j r x (n + 1) (up σ 73 j (σ 73 j + 1)) := by
  obtain ⟨h1, h2, h3, h4⟩ := h
  refine ⟨fun q a b c d => by rw [up_n _ _ _ a]; exact h1 q a b c d, ?_, fun k hk he => ?_, fun q hq => ?_⟩
  · show _ = ui (σ0 73) j (σ0 73 j + (wsum g T r x n + emw g T r (tr g T r x n)))
    rw [up_s, hw, h2, ui_ui, ui_s, Int.add_assoc]
  · rw [up_n _ _ _ (by decide), up_n _ _ _ (by decide)]
    by_cases z : k = n
    · subst z
      exact absurd hc he
    · exact h3 k (by omega) he
  · rw [up_n _ _ _ (by decide), up_n _ _ _ (by decide)]
    exact h4 q (fun k hk he => hq k (by omega) he)
theorem CW_child {g : Gr} {T : Tb} {σ0 σ : St} {j r : Int} {x : Int × Int} {n : Nat} (h : CW g T σ0 j r x n σ) (hw : emw g T r (tr g T r x n) = 0) (hne : emc g T r (tr g T r x n) ≠ -1) (hd : ∀ k, k < n → emc g T r (tr g T r x k) ≠ -1 → (tr g T r x k).2 < (tr g T r x n).2) : CW g T σ0 j r x (n + 1) (up (up σ 77 (tr g T r x n).2 (emc g T r (tr g T r x n))) 79 (tr g T r x n).2 j) := by
  obtain ⟨h1, h2, h3, h4⟩ := h
  have e77 : ∀ q, up (up σ 77 (tr g T r x n).2 (emc g T r (tr g T r x n))) 79 (tr g T r x n).2 j 77 q = ui (σ 77) (tr g T r x n).2 (emc g T r (tr g T r x n)) q := fun q => by rw [up_n _ _ _ (by decide), up_s]
  have e79 : ∀ q, up (up σ 77 (tr g T r x n).2 (emc g T r (tr g T r x n))) 79 (tr g T r x n).2 j 79 q = ui (σ 79) (tr g T r x n).2 j q := fun q => by rw [up_s, up_n _ _ _ (by decide)]
  refine ⟨fun q a b c d => by rw [up_n _ _ _ d, up_n _ _ _ c]; exact h1 q a b c d, ?_, fun k hk he => ?_, fun q hq => ?_⟩
  · show _ = ui (σ0 73) j (σ0 73 j + (wsum g T r x n + emw g T r (tr g T r x n)))
    rw [up_n _ _ _ (by decide), up_n _ _ _ (by decide), hw, Int.add_zero]
    exact h2
  · rw [e77, e79]
    by_cases z : k = n
    · subst z
      rw [ui_s, ui_s]
      exact ⟨rfl, rfl⟩
    · have := hd k (by omega) he
      rw [ui_n _ _ (by omega), ui_n _ _ (by omega)]
      exact h3 k (by omega) he
  · have := hq n (by omega) hne
    rw [e77, e79, ui_n _ _ (Ne.symm this), ui_n _ _ (Ne.symm this)]
    exact h4 q (fun k hk he => hq k (by omega) he)
theorem CW_app {g : Gr} {T : Tb} {σ0 σ1 σ : St} {j r : Int} {x : Int × Int} {n m : Nat} (h : CW g T σ0 j r x n σ1) (h' : CW g T σ1 j r (tr g T r x n) m σ) (hd : ∀ k l, k < l → emc g T r (tr g T r x k) ≠ -1 → (tr g T r x k).2 < (tr g T r x l).2) : CW g T σ0 j r x (n + m) σ := by
  obtain ⟨h1, h2, h3, h4⟩ := h
  obtain ⟨g1, g2, g3, g4⟩ := h'
  refine ⟨fun q a b c d => by rw [g1 q a b c d]; exact h1 q a b c d, ?_, fun k hk he => ?_, fun q hq => ?_⟩
  · rw [g2, h2, ui_ui, ui_s, wsum_add, Int.add_assoc]
  · by_cases z : k < n
    · obtain ⟨u1, u2⟩ := h3 k z he
      obtain ⟨v1, v2⟩ := g4 (tr g T r x k).2 (fun l hl hel => by
        have := hd k (n + l) (by omega) he
        rw [tr_add] at this
        omega)
      rw [v1, v2]
      exact ⟨u1, u2⟩
    · obtain ⟨d, rfl⟩ := Nat.exists_eq_add_of_le (Nat.le_of_not_lt z)
      rw [tr_add] at he ⊢
      exact g3 d (by omega) he
  · obtain ⟨u1, u2⟩ := h4 q (fun k hk he => hq k (by omega) he)
    obtain ⟨v1, v2⟩ := g4 q (fun k hk he => by
      rw [← tr_add] at he ⊢
      exact hq (n + k) (by omega) he)
    rw [v1, v2]
    exact ⟨u1, u2⟩
-- numbers
def nb (f : Int → Int) (s : Int) : Nat → Int
  | 0 => 0
  | n + 1 => (nb f s n * 10 + f (s + n) - 48) % 1000000
def dec (g : Gr) (p : Int) : Int := nb (gt g) p (RE g 48 57 p - p).toNat
/-- v is the number of a node (r, s), or -1 -/
def isN (g : Gr) (T : Tb) (r s v : Int) : Prop := (v = -1 ∧ ∀ i, 0 ≤ i → i < gs g r → ge g r i ≠ 35) ∨ (∃ n, (tr g T r (0, s) n).1 < gs g r ∧ ge g r (tr g T r (0, s) n).1 = 35 ∧ (∀ i, 0 ≤ i → i < (tr g T r (0, s) n).1 → ge g r i ≠ 35) ∧ v = dec g (tr g T r (0, s) n).2)
theorem nb_b (f : Int → Int) (s : Int) : ∀ n, 0 ≤ nb f s n ∧ nb f s n < 1000000 := by
  intro n
  cases n with
  | zero => exact ⟨Int.le_refl 0, show (0 : Int) < 1000000 by decide⟩
  | succ n => exact ⟨Int.emod_nonneg _ (by decide), Int.emod_lt_of_pos _ (by decide)⟩
-- the top level, as a machine
def tp (g : Gr) (T : Tb) : Nat → Int
  | 0 => 0
  | n + 1 => if gl g ≤ tp g T n then tp g T n else if first T (tp g T n) = -1 then tp g T n + 1 else T (first T (tp g T n)) 0 (tp g T n)
/-- counts at the top level: islands, water, the present run of water, the longest -/
def tcn (g : Gr) (T : Tb) : Nat → Int × Int × Int × Int
  | 0 => (0, 0, 0, 0)
  | n + 1 => if gl g ≤ tp g T n then tcn g T n else if first T (tp g T n) = -1 then ((tcn g T n).1, (tcn g T n).2.1 + 1, (tcn g T n).2.2.1 + 1, max (tcn g T n).2.2.2 ((tcn g T n).2.2.1 + 1)) else ((tcn g T n).1 + 1, (tcn g T n).2.1, 0, (tcn g T n).2.2.2)
/-- (k, q) is a top-level island -/
def To (g : Gr) (T : Tb) (k q : Int) : Prop := k ≠ -1 ∧ ∃ n, tp g T n = q ∧ q < gl g ∧ first T q = k
def nodeOK (g : Gr) (T : Tb) (σ : St) (j : Int) : Prop :=
  (0 ≤ σ 63 j ∧ σ 63 j < 6) ∧ (0 ≤ σ 65 j ∧ σ 65 j < gl g) ∧ T (σ 63 j) 0 (σ 65 j) = σ 67 j ∧ σ 67 j ≠ -1 ∧
  ((σ 69 j = -1 ∧ To g T (σ 63 j) (σ 65 j) ∧ σ 71 j = 0) ∨ ((0 ≤ σ 69 j ∧ σ 69 j < j) ∧ Ch g T (σ 63 (σ 69 j)) (σ 65 (σ 69 j)) (σ 63 j) (σ 65 j) ∧ σ 71 j = σ 71 (σ 69 j) + 1)) ∧
  (∃ N, gs g (σ 63 j) ≤ (tr g T (σ 63 j) (0, σ 65 j) N).1 ∧ σ 73 j = wsum g T (σ 63 j) (0, σ 65 j) N) ∧ isN g T (σ 63 j) (σ 65 j) (σ 75 j)
/-- the class's nodes are the parse of g -/
def PO (g : Gr) (T : Tb) (σ : St) : Prop :=
  (0 ≤ σ 61 11 ∧ σ 61 11 ≤ gl g) ∧ (∀ j, 0 ≤ j → j < σ 61 11 → nodeOK g T σ j) ∧
  (∀ i j, 0 ≤ i → i < j → j < σ 61 11 → σ 65 i < σ 65 j ∧ (σ 65 j < σ 67 i → σ 71 i < σ 71 j)) ∧
  (∀ k q, To g T k q → ∃ j, (0 ≤ j ∧ j < σ 61 11) ∧ σ 65 j = q ∧ σ 63 j = k ∧ σ 69 j = -1) ∧
  (∀ j, 0 ≤ j → j < σ 61 11 → ∀ k q, Ch g T (σ 63 j) (σ 65 j) k q → ∃ i, (0 ≤ i ∧ i < σ 61 11) ∧ σ 65 i = q ∧ σ 63 i = k ∧ σ 69 i = j) ∧
  (∃ N, gl g ≤ tp g T N ∧ σ 61 12 = (tcn g T N).1 ∧ σ 61 13 = (tcn g T N).2.1 ∧ σ 61 15 = (tcn g T N).2.2.2)
end
section
def pre_X5_textSize (σ : St) : Prop := True
def ans_X5_textSize (σ : St) : Int := σ 1 4
abbrev post_X5_textSize (σ : St) (r : Int) (σ' : St) : Prop := r = ans_X5_textSize σ ∧ σ' = σ
def pre_X6_isByte (x0 : Int) (σ : St) : Prop := inR x0
def ans_X6_isByte (x0 : Int) (σ : St) : Int := if 32 ≤ x0 ∧ x0 ≤ 126 then 1 else 0
abbrev post_X6_isByte (x0 : Int) (σ : St) (r : Int) (σ' : St) : Prop := r = ans_X6_isByte x0 σ ∧ σ' = σ
def pre_X4_get (k nn : Nat) (x1 : Int) (σ : St) : Prop := inR x1
def ans_X4_get (k nn : Nat) (x1 : Int) (σ : St) : Int := if 0 ≤ x1 ∧ x1 < (nn : Int) then σ (k + 1) x1 else -1
abbrev post_X4_get (k nn : Nat) (x1 : Int) (σ : St) (r : Int) (σ' : St) : Prop := r = ans_X4_get k nn x1 σ ∧ σ' = σ
def pre_X4_set (k nn : Nat) (x1 x2 : Int) (σ : St) : Prop := inR x1
def eff_X4_set (k nn : Nat) (x1 x2 : Int) (σ : St) : St := if 0 ≤ x1 ∧ x1 < (nn : Int) then up σ (k + 1) x1 x2 else σ
abbrev post_X4_set (k nn : Nat) (x1 x2 : Int) (σ : St) (σ' : St) : Prop := σ' = eff_X4_set k nn x1 x2 σ
def pre_X6_fail (x1 : Int) (σ : St) : Prop := -4 ≤ x1 ∧ x1 ≤ -2
def ans_X6_fail (x1 : Int) (σ : St) : Int := x1
def eff_X6_fail (x1 : Int) (σ : St) : St := up σ 51 (-2 - x1) (σ 51 (-2 - x1) + 1)
abbrev post_X6_fail (x1 : Int) (σ : St) (r : Int) (σ' : St) : Prop := r = ans_X6_fail x1 σ ∧ σ' = eff_X6_fail x1 σ
def pre_X1_slotAt (x1 : Int) (σ : St) : Prop := inR x1
def ans_X1_slotAt (x1 : Int) (σ : St) : Nat := 12 + 9 * Int.toNat (if 0 ≤ x1 ∧ x1 < 4 then x1 else 0)
abbrev post_X1_slotAt (x1 : Int) (σ : St) (r : Nat) (σ' : St) : Prop := r = ans_X1_slotAt x1 σ ∧ σ' = σ
def pre_X4_copyFrom (k nn : Nat) (k2 nn2 : Nat) (σ : St) : Prop := k ≠ k2
def eff_X4_copyFrom (k nn : Nat) (k2 nn2 : Nat) (σ : St) : St := ur σ (k + 1) (fun j => if 0 ≤ j ∧ j < (nn : Int) ∧ j < (nn2 : Int) then σ (k2 + 1) j else σ (k + 1) j)
abbrev post_X4_copyFrom (k nn : Nat) (k2 nn2 : Nat) (σ : St) (σ' : St) : Prop := σ' = eff_X4_copyFrom k nn k2 nn2 σ
def pre_X5_copyFrom (b : Nat) (b2 : Nat) (σ : St) : Prop := (b + 9 ≤ b2 ∨ b2 + 9 ≤ b)
def eff_X5_copyFrom (b : Nat) (b2 : Nat) (σ : St) : St := eff_X4_copyFrom (b + 7) 6 (b2 + 7) 6 (eff_X4_copyFrom (b + 5) 48 (b2 + 5) 48 (eff_X4_copyFrom (b + 3) 6 (b2 + 3) 6 (eff_X4_copyFrom (b + 1) 100 (b2 + 1) 100 (up σ b 4 (σ b2 4)))))
abbrev post_X5_copyFrom (b : Nat) (b2 : Nat) (σ : St) (σ' : St) : Prop := σ' = eff_X5_copyFrom b b2 σ
def pre_X1_save (σ : St) : Prop := 0 ≤ σ 10 1 ∧ σ 10 1 ≤ 3 ∧ 0 ≤ σ 10 2 ∧ σ 10 2 ≤ 4
def eff_X1_save (σ : St) : St := up (up (eff_X5_copyFrom (ans_X1_slotAt (σ 10 1) σ) 1 σ) 10 1 (if σ 10 1 + 1 < 4 then σ 10 1 + 1 else 0)) 10 2 (min (σ 10 2 + 1) 4)
abbrev post_X1_save (σ : St) (σ' : St) : Prop := σ' = eff_X1_save σ
def pre_X6_prepareChange (σ : St) : Prop := pre_X1_save σ
def eff_X6_prepareChange (σ : St) : St := up (eff_X1_save σ) 0 7 1
abbrev post_X6_prepareChange (σ : St) (σ' : St) : Prop := σ' = eff_X6_prepareChange σ
def pre_X5_insertByte (x1 x2 : Int) (σ : St) : Prop := 0 ≤ x1 ∧ x1 ≤ σ 1 4 ∧ σ 1 4 < 100
def eff_X5_insertByte (x1 x2 : Int) (σ : St) : St := up (ur σ 3 (fun j => if j = x1 then x2 else if x1 < j ∧ j ≤ σ 1 4 then σ 3 (j - 1) else σ 3 j)) 1 4 (σ 1 4 + 1)
abbrev post_X5_insertByte (x1 x2 : Int) (σ : St) (σ' : St) : Prop := σ' = eff_X5_insertByte x1 x2 σ
def pre_X6_insert (x1 x2 : Int) (σ : St) : Prop := inR x1 ∧ inR x2 ∧ 0 ≤ σ 1 4 ∧ σ 1 4 ≤ 100 ∧ pre_X1_save σ
def ans_X6_insert (x1 x2 : Int) (σ : St) : Int := if ¬ (0 ≤ x1 ∧ x1 ≤ σ 1 4 ∧ 32 ≤ x2 ∧ x2 ≤ 126) then (-2) else if 100 ≤ σ 1 4 then (-4) else σ 1 4 + 1
def eff_X6_insert (x1 x2 : Int) (σ : St) : St := if ¬ (0 ≤ x1 ∧ x1 ≤ σ 1 4 ∧ 32 ≤ x2 ∧ x2 ≤ 126) then eff_X6_fail (-2) σ else if 100 ≤ σ 1 4 then eff_X6_fail (-4) σ else eff_X5_insertByte x1 x2 (eff_X6_prepareChange σ)
abbrev post_X6_insert (x1 x2 : Int) (σ : St) (r : Int) (σ' : St) : Prop := r = ans_X6_insert x1 x2 σ ∧ σ' = eff_X6_insert x1 x2 σ
def pre_X6_isInText (x1 : Int) (σ : St) : Prop := inR x1 ∧ inR (σ 1 4)
def ans_X6_isInText (x1 : Int) (σ : St) : Int := if 0 ≤ x1 ∧ x1 < σ 1 4 then 1 else 0
abbrev post_X6_isInText (x1 : Int) (σ : St) (r : Int) (σ' : St) : Prop := r = ans_X6_isInText x1 σ ∧ σ' = σ
def pre_X5_textAt (x1 : Int) (σ : St) : Prop := 0 ≤ x1 ∧ x1 ≤ 100 ∧ 0 ≤ σ 1 4 ∧ σ 1 4 ≤ 100
def ans_X5_textAt (x1 : Int) (σ : St) : Int := if x1 < σ 1 4 then σ 3 x1 else -1
abbrev post_X5_textAt (x1 : Int) (σ : St) (r : Int) (σ' : St) : Prop := r = ans_X5_textAt x1 σ ∧ σ' = σ
def pre_X5_setByte (x1 x2 : Int) (σ : St) : Prop := 0 ≤ x1 ∧ x1 < 100
def eff_X5_setByte (x1 x2 : Int) (σ : St) : St := up σ 3 x1 x2
abbrev post_X5_setByte (x1 x2 : Int) (σ : St) (σ' : St) : Prop := σ' = eff_X5_setByte x1 x2 σ
def pre_X6_replace (x1 x2 : Int) (σ : St) : Prop := inR x1 ∧ inR x2 ∧ 0 ≤ σ 1 4 ∧ σ 1 4 ≤ 100 ∧ pre_X1_save σ
def ans_X6_replace (x1 x2 : Int) (σ : St) : Int := if ¬ (0 ≤ x1 ∧ x1 < σ 1 4 ∧ 32 ≤ x2 ∧ x2 ≤ 126) then (-2) else σ 3 x1
def eff_X6_replace (x1 x2 : Int) (σ : St) : St := if ¬ (0 ≤ x1 ∧ x1 < σ 1 4 ∧ 32 ≤ x2 ∧ x2 ≤ 126) then eff_X6_fail (-2) σ else eff_X5_setByte x1 x2 (eff_X6_prepareChange σ)
abbrev post_X6_replace (x1 x2 : Int) (σ : St) (r : Int) (σ' : St) : Prop := r = ans_X6_replace x1 x2 σ ∧ σ' = eff_X6_replace x1 x2 σ
def pre_X5_removeBytes (x1 x2 : Int) (σ : St) : Prop := 0 ≤ x1 ∧ 1 ≤ x2 ∧ x1 + x2 ≤ σ 1 4 ∧ σ 1 4 ≤ 100
def eff_X5_removeBytes (x1 x2 : Int) (σ : St) : St := ur (up σ 1 4 (σ 1 4 - x2)) 3 (fun j => if x1 ≤ j ∧ j < σ 1 4 - x2 then σ 3 (j + x2) else σ 3 j)
abbrev post_X5_removeBytes (x1 x2 : Int) (σ : St) (σ' : St) : Prop := σ' = eff_X5_removeBytes x1 x2 σ
def pre_X6_delete (x1 x2 : Int) (σ : St) : Prop := inR x1 ∧ inR x2 ∧ 0 ≤ σ 1 4 ∧ σ 1 4 ≤ 100 ∧ pre_X1_save σ
def ans_X6_delete (x1 x2 : Int) (σ : St) : Int := if ¬ (0 ≤ x1 ∧ x1 < σ 1 4 ∧ 1 ≤ x2 ∧ x2 ≤ σ 1 4 - x1) then (-2) else σ 1 4 - x2
def eff_X6_delete (x1 x2 : Int) (σ : St) : St := if ¬ (0 ≤ x1 ∧ x1 < σ 1 4 ∧ 1 ≤ x2 ∧ x2 ≤ σ 1 4 - x1) then eff_X6_fail (-2) σ else eff_X5_removeBytes x1 x2 (eff_X6_prepareChange σ)
abbrev post_X6_delete (x1 x2 : Int) (σ : St) (r : Int) (σ' : St) : Prop := r = ans_X6_delete x1 x2 σ ∧ σ' = eff_X6_delete x1 x2 σ
def pre_X6_length (σ : St) : Prop := True
def ans_X6_length (σ : St) : Int := σ 1 4
abbrev post_X6_length (σ : St) (r : Int) (σ' : St) : Prop := r = ans_X6_length σ ∧ σ' = σ
def pre_X6_byteAt (x1 : Int) (σ : St) : Prop := inR x1 ∧ 0 ≤ σ 1 4 ∧ σ 1 4 ≤ 100
def ans_X6_byteAt (x1 : Int) (σ : St) : Int := if 0 ≤ x1 ∧ x1 < σ 1 4 then σ 3 x1 else (-2)
def eff_X6_byteAt (x1 : Int) (σ : St) : St := if 0 ≤ x1 ∧ x1 < σ 1 4 then σ else eff_X6_fail (-2) σ
abbrev post_X6_byteAt (x1 : Int) (σ : St) (r : Int) (σ' : St) : Prop := r = ans_X6_byteAt x1 σ ∧ σ' = eff_X6_byteAt x1 σ
def pre_X6_append (x1 : Int) (σ : St) : Prop := inR x1 ∧ 0 ≤ σ 0 6 ∧ σ 0 6 ≤ 8
def ans_X6_append (x1 : Int) (σ : St) : Int := if ¬ (32 ≤ x1 ∧ x1 ≤ 126) then (-2) else if 8 ≤ σ 0 6 then (-4) else σ 0 6 + 1
def eff_X6_append (x1 : Int) (σ : St) : St := if ¬ (32 ≤ x1 ∧ x1 ≤ 126) then eff_X6_fail (-2) σ else if 8 ≤ σ 0 6 then eff_X6_fail (-4) σ else up (up σ 49 (σ 0 6) x1) 0 6 (σ 0 6 + 1)
abbrev post_X6_append (x1 : Int) (σ : St) (r : Int) (σ' : St) : Prop := r = ans_X6_append x1 σ ∧ σ' = eff_X6_append x1 σ
def pre_X6_clearPattern (σ : St) : Prop := True
def ans_X6_clearPattern (σ : St) : Int := σ 0 6
def eff_X6_clearPattern (σ : St) : St := up σ 0 6 0
abbrev post_X6_clearPattern (σ : St) (r : Int) (σ' : St) : Prop := r = ans_X6_clearPattern σ ∧ σ' = eff_X6_clearPattern σ
def pre_X6_isRule (x0 : Int) (σ : St) : Prop := inR x0
def ans_X6_isRule (x0 : Int) (σ : St) : Int := if 0 ≤ x0 ∧ x0 < 6 then 1 else 0
abbrev post_X6_isRule (x0 : Int) (σ : St) (r : Int) (σ' : St) : Prop := r = ans_X6_isRule x0 σ ∧ σ' = σ
def pre_X6_isReference (x0 : Int) (σ : St) : Prop := inR x0
def ans_X6_isReference (x0 : Int) (σ : St) : Int := if 65 ≤ x0 ∧ x0 ≤ 70 then 1 else 0
abbrev post_X6_isReference (x0 : Int) (σ : St) (r : Int) (σ' : St) : Prop := r = ans_X6_isReference x0 σ ∧ σ' = σ
def pre_X6_canStartPattern (x0 : Int) (σ : St) : Prop := inR x0
def ans_X6_canStartPattern (x0 : Int) (σ : St) : Int := if x0 = 126 ∨ (65 ≤ x0 ∧ x0 ≤ 70) then 0 else 1
abbrev post_X6_canStartPattern (x0 : Int) (σ : St) (r : Int) (σ' : St) : Prop := r = ans_X6_canStartPattern x0 σ ∧ σ' = σ
def pre_X5_setPattern (x1 x3 : Int) (σ : St) : Prop := 0 ≤ x1 ∧ x1 < 6 ∧ 0 ≤ x3 ∧ x3 ≤ 8
def eff_X5_setPattern (x1 x3 : Int) (σ : St) : St := ur (up σ 5 x1 x3) 7 (fun j => if x1 * 8 ≤ j ∧ j < x1 * 8 + x3 then σ 49 (j - x1 * 8) else σ 7 j)
abbrev post_X5_setPattern (x1 x3 : Int) (σ : St) (σ' : St) : Prop := σ' = eff_X5_setPattern x1 x3 σ
def pre_X6_define (x1 : Int) (σ : St) : Prop := inR x1 ∧ 0 ≤ σ 0 6 ∧ σ 0 6 ≤ 8 ∧ inR (σ 49 0) ∧ pre_X1_save σ
def ans_X6_define (x1 : Int) (σ : St) : Int := if ¬ (0 ≤ x1 ∧ x1 < 6) then (-2) else if σ 0 6 = 0 ∨ (σ 49 0 = 126 ∨ (65 ≤ σ 49 0 ∧ σ 49 0 ≤ 70)) then (-3) else σ 0 6
def eff_X6_define (x1 : Int) (σ : St) : St := if ¬ (0 ≤ x1 ∧ x1 < 6) then eff_X6_fail (-2) σ else if σ 0 6 = 0 ∨ (σ 49 0 = 126 ∨ (65 ≤ σ 49 0 ∧ σ 49 0 ≤ 70)) then eff_X6_fail (-3) σ else eff_X5_setPattern x1 (σ 0 6) (eff_X6_prepareChange σ)
abbrev post_X6_define (x1 : Int) (σ : St) (r : Int) (σ' : St) : Prop := r = ans_X6_define x1 σ ∧ σ' = eff_X6_define x1 σ
def pre_X5_patternSize (x1 : Int) (σ : St) : Prop := 0 ≤ x1 ∧ x1 < 6
def ans_X5_patternSize (x1 : Int) (σ : St) : Int := σ 5 x1
abbrev post_X5_patternSize (x1 : Int) (σ : St) (r : Int) (σ' : St) : Prop := r = ans_X5_patternSize x1 σ ∧ σ' = σ
def pre_X6_undefine (x1 : Int) (σ : St) : Prop := inR x1 ∧ pre_X1_save σ
def ans_X6_undefine (x1 : Int) (σ : St) : Int := if ¬ (0 ≤ x1 ∧ x1 < 6) then (-2) else σ 5 x1
def eff_X6_undefine (x1 : Int) (σ : St) : St := if ¬ (0 ≤ x1 ∧ x1 < 6) then eff_X6_fail (-2) σ else eff_X5_setPattern x1 0 (eff_X6_prepareChange σ)
abbrev post_X6_undefine (x1 : Int) (σ : St) (r : Int) (σ' : St) : Prop := r = ans_X6_undefine x1 σ ∧ σ' = eff_X6_undefine x1 σ
def pre_X5_stopOf (x1 : Int) (σ : St) : Prop := 0 ≤ x1 ∧ x1 < 6
def ans_X5_stopOf (x1 : Int) (σ : St) : Int := σ 9 x1
abbrev post_X5_stopOf (x1 : Int) (σ : St) (r : Int) (σ' : St) : Prop := r = ans_X5_stopOf x1 σ ∧ σ' = σ
def pre_X5_putStop (x1 x2 : Int) (σ : St) : Prop := 0 ≤ x1 ∧ x1 < 6
def eff_X5_putStop (x1 x2 : Int) (σ : St) : St := up σ 9 x1 x2
abbrev post_X5_putStop (x1 x2 : Int) (σ : St) (σ' : St) : Prop := σ' = eff_X5_putStop x1 x2 σ
def pre_X6_setStop (x1 x2 : Int) (σ : St) : Prop := inR x1 ∧ inR x2 ∧ pre_X1_save σ
def ans_X6_setStop (x1 x2 : Int) (σ : St) : Int := if ¬ (0 ≤ x1 ∧ x1 < 6 ∧ (x2 = -1 ∨ (32 ≤ x2 ∧ x2 ≤ 126))) then (-2) else σ 9 x1
def eff_X6_setStop (x1 x2 : Int) (σ : St) : St := if ¬ (0 ≤ x1 ∧ x1 < 6 ∧ (x2 = -1 ∨ (32 ≤ x2 ∧ x2 ≤ 126))) then eff_X6_fail (-2) σ else eff_X5_putStop x1 x2 (eff_X6_prepareChange σ)
abbrev post_X6_setStop (x1 x2 : Int) (σ : St) (r : Int) (σ' : St) : Prop := r = ans_X6_setStop x1 x2 σ ∧ σ' = eff_X6_setStop x1 x2 σ
def pre_X5_patternAt (x1 x2 : Int) (σ : St) : Prop := 0 ≤ x1 ∧ x1 < 6 ∧ 0 ≤ x2 ∧ x2 < 8
def ans_X5_patternAt (x1 x2 : Int) (σ : St) : Int := σ 7 (x1 * 8 + x2)
abbrev post_X5_patternAt (x1 x2 : Int) (σ : St) (r : Int) (σ' : St) : Prop := r = ans_X5_patternAt x1 x2 σ ∧ σ' = σ
def pre_X6_element (x1 x2 : Int) (σ : St) : Prop := inR x1 ∧ inR x2 ∧ ∀ r, 0 ≤ r → r < 6 → 0 ≤ σ 5 r ∧ σ 5 r ≤ 8
def ans_X6_element (x1 x2 : Int) (σ : St) : Int := if ¬ (0 ≤ x1 ∧ x1 < 6 ∧ 0 ≤ x2) then (-2) else (if x2 < σ 5 x1 then σ 7 (x1 * 8 + x2) else -1)
def eff_X6_element (x1 x2 : Int) (σ : St) : St := if ¬ (0 ≤ x1 ∧ x1 < 6 ∧ 0 ≤ x2) then eff_X6_fail (-2) σ else σ
abbrev post_X6_element (x1 x2 : Int) (σ : St) (r : Int) (σ' : St) : Prop := r = ans_X6_element x1 x2 σ ∧ σ' = eff_X6_element x1 x2 σ
def pre_X6_isDigit (x0 : Int) (σ : St) : Prop := inR x0
def ans_X6_isDigit (x0 : Int) (σ : St) : Int := if 48 ≤ x0 ∧ x0 ≤ 57 then 1 else 0
abbrev post_X6_isDigit (x0 : Int) (σ : St) (r : Int) (σ' : St) : Prop := r = ans_X6_isDigit x0 σ ∧ σ' = σ
def pre_X2_runEnd (k nn : Nat) (x1 : Int) (σ : St) : Prop := inR (x1 + 1) ∧ inR (σ (k + 1) (x1 + 1))
def ans_X2_runEnd (k nn : Nat) (x1 : Int) (σ : St) : Int := if 0 ≤ x1 + 1 ∧ x1 + 1 < (nn : Int) ∧ ¬ σ (k + 1) (x1 + 1) = -1 then σ (k + 1) (x1 + 1) else x1 + 1
abbrev post_X2_runEnd (k nn : Nat) (x1 : Int) (σ : St) (r : Int) (σ' : St) : Prop := r = ans_X2_runEnd k nn x1 σ ∧ σ' = σ
def pre_X6_isLetter (x0 : Int) (σ : St) : Prop := inR x0
def ans_X6_isLetter (x0 : Int) (σ : St) : Int := if 97 ≤ x0 ∧ x0 ≤ 122 then 1 else 0
abbrev post_X6_isLetter (x0 : Int) (σ : St) (r : Int) (σ' : St) : Prop := r = ans_X6_isLetter x0 σ ∧ σ' = σ
def pre_X2_markRuns (x1 : Int) (σ : St) : Prop := 0 ≤ x1 ∧ x1 ≤ 100 ∧ 0 ≤ σ 1 4 ∧ σ 1 4 ≤ 100 ∧ MB σ ∧ (x1 < σ 1 4 → inR (σ 3 x1))
def eff_X2_markRuns (x1 : Int) (σ : St) : St := up (up σ 54 x1 (if 48 ≤ ans_X5_textAt x1 σ ∧ ans_X5_textAt x1 σ ≤ 57 then ans_X2_runEnd 53 101 x1 σ else -1)) 56 x1 (if 97 ≤ ans_X5_textAt x1 σ ∧ ans_X5_textAt x1 σ ≤ 122 then ans_X2_runEnd 55 101 x1 σ else -1)
abbrev post_X2_markRuns (x1 : Int) (σ : St) (σ' : St) : Prop := σ' = eff_X2_markRuns x1 σ
def pre_X0_get (x1 x2 x3 : Int) (σ : St) : Prop := 0 ≤ x1 ∧ x1 ≤ 5 ∧ 0 ≤ x2 ∧ x2 ≤ 8 ∧ -1 ≤ x3 ∧ x3 ≤ 100
def ans_X0_get (x1 x2 x3 : Int) (σ : St) : Int := tget σ x1 x2 x3
abbrev post_X0_get (x1 x2 x3 : Int) (σ : St) (r : Int) (σ' : St) : Prop := r = ans_X0_get x1 x2 x3 σ ∧ σ' = σ
def pre_X2_elementEnd (x1 x2 : Int) (σ : St) : Prop := 0 ≤ x1 ∧ x1 ≤ 126 ∧ 0 ≤ x2 ∧ x2 ≤ 100 ∧ 0 ≤ σ 1 4 ∧ σ 1 4 ≤ 100 ∧ MB σ ∧ (x2 < σ 1 4 → inR (σ 3 x2))
def ans_X2_elementEnd (x1 x2 : Int) (σ : St) : Int := if x1 = 35 then σ 54 x2 else if x1 = 64 then σ 56 x2 else if 65 ≤ x1 ∧ x1 ≤ 70 then ct σ (x1 - 65) 0 x2 else if x2 < σ 1 4 ∧ σ 3 x2 = x1 then x2 + 1 else -1
abbrev post_X2_elementEnd (x1 x2 : Int) (σ : St) (r : Int) (σ' : St) : Prop := r = ans_X2_elementEnd x1 x2 σ ∧ σ' = σ
def pre_X0_set (x1 x2 x3 x4 : Int) (σ : St) : Prop := 0 ≤ x1 ∧ x1 ≤ 5 ∧ 0 ≤ x2 ∧ x2 ≤ 8 ∧ 0 ≤ x3 ∧ x3 ≤ 100
def eff_X0_set (x1 x2 x3 x4 : Int) (σ : St) : St := up σ 60 ((x1 * 9 + x2) * 101 + x3) x4
abbrev post_X0_set (x1 x2 x3 x4 : Int) (σ : St) (σ' : St) : Prop := σ' = eff_X0_set x1 x2 x3 x4 σ
def pre_X2_matchIslands (x1 : Int) (σ : St) : Prop := 0 ≤ x1 ∧ x1 ≤ 100 ∧ MB σ ∧ gWF (cg σ 1)
def post_X2_matchIslands (x1 : Int) (σ : St) (σ' : St) : Prop := MB σ' ∧ (∀ q, q ≠ 58 → q ≠ 60 → σ' q = σ q) ∧ (∀ j, j ≠ x1 → σ' 58 j = σ 58 j) ∧ (∀ r i p, 0 ≤ r → r < 6 → 0 ≤ i → i ≤ 8 → 0 ≤ p → p ≤ 100 → (i ≠ 0 ∨ p ≠ x1) → ct σ' r i p = ct σ r i p) ∧ (∀ r, 0 ≤ r → r < 6 → ct σ' r 0 x1 = if σ 5 r ≤ 0 then -1 else tget σ r 1 (ans_X2_elementEnd (σ 7 (r * 8 + 0)) x1 σ)) ∧ σ' 58 x1 = first (ct σ') x1
def pre_X2_waterRestEnd (x1 x2 x3 : Int) (σ : St) : Prop := 0 ≤ x1 ∧ x1 ≤ 5 ∧ 0 ≤ x2 ∧ x2 ≤ 7 ∧ 0 ≤ x3 ∧ x3 ≤ 100 ∧ 0 ≤ σ 1 4 ∧ σ 1 4 ≤ 100 ∧ MB σ ∧ (x3 < σ 1 4 → 32 ≤ σ 3 x3 ∧ σ 3 x3 ≤ 126) ∧ inR (σ 9 x1)
def ans_X2_waterRestEnd (x1 x2 x3 : Int) (σ : St) : Int := if ¬ ct σ x1 (x2 + 1) x3 = -1 then ct σ x1 (x2 + 1) x3 else if ¬ σ 58 x3 = -1 then tget σ x1 x2 (ct σ (σ 58 x3) 0 x3) else if ¬ x3 < σ 1 4 ∨ σ 3 x3 = σ 9 x1 then -1 else ct σ x1 x2 (x3 + 1)
abbrev post_X2_waterRestEnd (x1 x2 x3 : Int) (σ : St) (r : Int) (σ' : St) : Prop := r = ans_X2_waterRestEnd x1 x2 x3 σ ∧ σ' = σ
def pre_X2_matchRests (x1 x2 : Int) (σ : St) : Prop := 0 ≤ x1 ∧ x1 ≤ 5 ∧ 0 ≤ x2 ∧ x2 ≤ 100 ∧ MB σ ∧ gWF (cg σ 1) ∧ (∀ f, 0 ≤ f → f < 6 → ct σ f 0 x2 ≠ x2)
def post_X2_matchRests (x1 x2 : Int) (σ : St) (σ' : St) : Prop := MB σ' ∧ (∀ q, q ≠ 60 → σ' q = σ q) ∧ (∀ r i p, 0 ≤ r → r < 6 → 0 ≤ i → i ≤ 8 → 0 ≤ p → p ≤ 100 → (r ≠ x1 ∨ i = 0 ∨ p ≠ x2) → ct σ' r i p = ct σ r i p) ∧ (∀ i, 1 ≤ i → i ≤ σ 5 x1 → ct σ' x1 i x2 = if i = σ' 5 x1 then x2 else if σ' 7 (x1 * 8 + i) = 126 then ans_X2_waterRestEnd x1 i x2 σ' else tget σ' x1 (i + 1) (ans_X2_elementEnd (σ' 7 (x1 * 8 + i)) x2 σ'))
def pre_X2_update (σ : St) : Prop := MB σ ∧ gWF (cg σ 1)
def post_X2_update (σ : St) (σ' : St) : Prop := MB σ' ∧ (∀ q, q ≠ 54 → q ≠ 56 → q ≠ 58 → q ≠ 60 → σ' q = σ q) ∧ Good (cg σ 1) (ct σ') ∧ (∀ p, 0 ≤ p → p ≤ σ 1 4 → σ' 58 p = first (ct σ') p ∧ σ' 54 p = runE (cg σ 1) 48 57 p ∧ σ' 56 p = runE (cg σ 1) 97 122 p)
def pre_X4_fill (k nn : Nat) (x1 : Int) (σ : St) : Prop := True
def eff_X4_fill (k nn : Nat) (x1 : Int) (σ : St) : St := ur σ (k + 1) (fun j => if 0 ≤ j ∧ j < (nn : Int) then x1 else σ (k + 1) j)
abbrev post_X4_fill (k nn : Nat) (x1 : Int) (σ : St) (σ' : St) : Prop := σ' = eff_X4_fill k nn x1 σ
def pre_X3_clear (σ : St) : Prop := True
def eff_X3_clear (σ : St) : St := up (up (up (up (up (ur σ 77 (fun j => if 0 ≤ j ∧ j < 100 then -1 else σ 77 j)) 61 11 0) 61 12 0) 61 13 0) 61 14 0) 61 15 0
abbrev post_X3_clear (σ : St) (σ' : St) : Prop := σ' = eff_X3_clear σ
def pre_X2_firstRule (x1 : Int) (σ : St) : Prop := inR x1
def ans_X2_firstRule (x1 : Int) (σ : St) : Int := if 0 ≤ x1 ∧ x1 < 101 then σ 58 x1 else -1
abbrev post_X2_firstRule (x1 : Int) (σ : St) (r : Int) (σ' : St) : Prop := r = ans_X2_firstRule x1 σ ∧ σ' = σ
def pre_X3_announce (x1 x2 x3 : Int) (σ : St) : Prop := 0 ≤ x1 ∧ x1 < 100
def eff_X3_announce (x1 x2 x3 : Int) (σ : St) : St := up (up σ 77 x1 x2) 79 x1 x3
abbrev post_X3_announce (x1 x2 x3 : Int) (σ : St) (σ' : St) : Prop := σ' = eff_X3_announce x1 x2 x3 σ
def pre_X2_islandEnd (x1 x2 : Int) (σ : St) : Prop := 0 ≤ x1 ∧ x1 ≤ 5 ∧ -1 ≤ x2 ∧ x2 ≤ 100
def ans_X2_islandEnd (x1 x2 : Int) (σ : St) : Int := tget σ x1 0 x2
abbrev post_X2_islandEnd (x1 x2 : Int) (σ : St) (r : Int) (σ' : St) : Prop := r = ans_X2_islandEnd x1 x2 σ ∧ σ' = σ
def pre_X3_takeTopLevel (x1 : Int) (σ : St) : Prop := 0 ≤ x1 ∧ x1 < 100 ∧ MB σ ∧ inR (σ 61 15) ∧ inR (σ 61 14 + 1)
def ans_X3_takeTopLevel (x1 : Int) (σ : St) : Int := if σ 58 x1 = -1 then x1 + 1 else tget σ (σ 58 x1) 0 x1
def eff_X3_takeTopLevel (x1 : Int) (σ : St) : St := if σ 58 x1 = -1 then up (up (up σ 61 13 (σ 61 13 + 1)) 61 14 (σ 61 14 + 1)) 61 15 (max (σ 61 15) (σ 61 14 + 1)) else eff_X3_announce x1 (σ 58 x1) (-1) (up (up σ 61 14 0) 61 12 (σ 61 12 + 1))
abbrev post_X3_takeTopLevel (x1 : Int) (σ : St) (r : Int) (σ' : St) : Prop := r = ans_X3_takeTopLevel x1 σ ∧ σ' = eff_X3_takeTopLevel x1 σ
def pre_X3_addNode (x1 : Int) (σ : St) : Prop := 0 ≤ x1 ∧ x1 < 100 ∧ 0 ≤ σ 61 11 ∧ σ 61 11 < 100 ∧ 0 ≤ σ 77 x1 ∧ σ 77 x1 ≤ 5 ∧ -1 ≤ σ 79 x1 ∧ σ 79 x1 < 100
def eff_X3_addNode (x1 : Int) (σ : St) : St := up (up (up (up (up (up (up (up σ 63 (σ 61 11) (σ 77 x1)) 65 (σ 61 11) x1) 67 (σ 61 11) (tget σ (σ 77 x1) 0 x1)) 69 (σ 61 11) (σ 79 x1)) 71 (σ 61 11) (if σ 79 x1 = -1 then 0 else σ 71 (σ 79 x1) + 1)) 73 (σ 61 11) 0) 75 (σ 61 11) (-1)) 61 11 (σ 61 11 + 1)
abbrev post_X3_addNode (x1 : Int) (σ : St) (σ' : St) : Prop := σ' = eff_X3_addNode x1 σ
def pre_X2_restMatches (x1 x2 x3 : Int) (σ : St) : Prop := 0 ≤ x1 ∧ x1 ≤ 5 ∧ 0 ≤ x2 ∧ x2 ≤ 8 ∧ -1 ≤ x3 ∧ x3 ≤ 100 ∧ MB σ
def ans_X2_restMatches (x1 x2 x3 : Int) (σ : St) : Int := if ¬ tget σ x1 x2 x3 = -1 then 1 else 0
abbrev post_X2_restMatches (x1 x2 x3 : Int) (σ : St) (r : Int) (σ' : St) : Prop := r = ans_X2_restMatches x1 x2 x3 σ ∧ σ' = σ
def pre_X3_walkWater (x1 x2 x3 : Int) (σ : St) : Prop := 0 ≤ x1 ∧ x1 < 100 ∧ 0 ≤ σ 63 x1 ∧ σ 63 x1 < 6 ∧ 0 ≤ x2 ∧ x2 < gs (cg σ 1) (σ 63 x1) ∧ ge (cg σ 1) (σ 63 x1) x2 = 126 ∧ 1 ≤ x3 ∧ x3 ≤ σ 1 4 ∧ ct σ (σ 63 x1) x2 x3 ≠ -1 ∧ MB σ ∧ gWF (cg σ 1) ∧ Good (cg σ 1) (ct σ) ∧ (∀ p, 0 ≤ p → p ≤ σ 1 4 → σ 58 p = first (ct σ) p ∧ σ 54 p = runE (cg σ 1) 48 57 p ∧ σ 56 p = runE (cg σ 1) 97 122 p)
def post_X3_walkWater (x1 x2 x3 : Int) (σ : St) (r : Int) (σ' : St) : Prop := σ' 75 = σ 75 ∧ ∃ m, CW (cg σ 1) (ct σ) σ x1 (σ 63 x1) (x2, x3) m σ' ∧ tr (cg σ 1) (ct σ) (σ 63 x1) (x2, x3) m = (x2 + 1, r)
def pre_X5_numberBetween (x1 x2 : Int) (σ : St) : Prop := 0 ≤ x1 ∧ x1 ≤ x2 ∧ x2 ≤ σ 1 4 ∧ σ 1 4 ≤ 100 ∧ (∀ p, x1 ≤ p → p < x2 → 48 ≤ σ 3 p ∧ σ 3 p ≤ 57)
def ans_X5_numberBetween (x1 x2 : Int) (σ : St) : Int := nb (σ 3) x1 (x2 - x1).toNat
abbrev post_X5_numberBetween (x1 x2 : Int) (σ : St) (r : Int) (σ' : St) : Prop := r = ans_X5_numberBetween x1 x2 σ ∧ σ' = σ
def pre_X3_walkPattern (x1 : Int) (σ : St) : Prop := 0 ≤ x1 ∧ x1 < 100 ∧ 0 ≤ σ 63 x1 ∧ σ 63 x1 < 6 ∧ 0 ≤ σ 65 x1 ∧ σ 65 x1 ≤ σ 1 4 ∧ ct σ (σ 63 x1) 0 (σ 65 x1) ≠ -1 ∧ σ 75 x1 = -1 ∧ MB σ ∧ gWF (cg σ 1) ∧ Good (cg σ 1) (ct σ) ∧ (∀ p, 0 ≤ p → p ≤ σ 1 4 → σ 58 p = first (ct σ) p ∧ σ 54 p = runE (cg σ 1) 48 57 p ∧ σ 56 p = runE (cg σ 1) 97 122 p)
def post_X3_walkPattern (x1 : Int) (σ : St) (σ' : St) : Prop := (∃ n, (tr (cg σ 1) (ct σ) (σ 63 x1) (0, σ 65 x1) n).1 = gs (cg σ 1) (σ 63 x1) ∧ CW (cg σ 1) (ct σ) σ x1 (σ 63 x1) (0, σ 65 x1) n σ') ∧ ∃ v, isN (cg σ 1) (ct σ) (σ 63 x1) (σ 65 x1) v ∧ σ' 75 = ui (σ 75) x1 v
def pre_X3_update (σ : St) : Prop := MB σ ∧ gWF (cg σ 1) ∧ Good (cg σ 1) (ct σ) ∧ (∀ p, 0 ≤ p → p ≤ σ 1 4 → σ 58 p = first (ct σ) p ∧ σ 54 p = runE (cg σ 1) 48 57 p ∧ σ 56 p = runE (cg σ 1) 97 122 p)
def post_X3_update (σ : St) (σ' : St) : Prop := (∀ q, q < 61 ∨ 80 ≤ q → σ' q = σ q) ∧ PO (cg σ 1) (ct σ) σ'
def pre_X6_refresh (σ : St) : Prop := True
def post_X6_refresh (σ : St) (σ' : St) : Prop := True
def pre_X6_matchEnd (x1 x2 : Int) (σ : St) : Prop := True
def post_X6_matchEnd (x1 x2 : Int) (σ : St) (r : Int) (σ' : St) : Prop := True
def pre_X3_total (σ : St) : Prop := True
def ans_X3_total (σ : St) : Int := σ 61 11
abbrev post_X3_total (σ : St) (r : Int) (σ' : St) : Prop := r = ans_X3_total σ ∧ σ' = σ
def pre_X6_nodeCount (σ : St) : Prop := True
def post_X6_nodeCount (σ : St) (r : Int) (σ' : St) : Prop := True
def pre_X3_topLevelTotal (σ : St) : Prop := True
def ans_X3_topLevelTotal (σ : St) : Int := σ 61 12
abbrev post_X3_topLevelTotal (σ : St) (r : Int) (σ' : St) : Prop := r = ans_X3_topLevelTotal σ ∧ σ' = σ
def pre_X6_islandCount (σ : St) : Prop := True
def post_X6_islandCount (σ : St) (r : Int) (σ' : St) : Prop := True
def pre_X3_has (x1 : Int) (σ : St) : Prop := inR x1 ∧ inR (σ 61 11)
def ans_X3_has (x1 : Int) (σ : St) : Int := if 0 ≤ x1 ∧ x1 < σ 61 11 then 1 else 0
abbrev post_X3_has (x1 : Int) (σ : St) (r : Int) (σ' : St) : Prop := r = ans_X3_has x1 σ ∧ σ' = σ
def pre_X3_ruleOf (x1 : Int) (σ : St) : Prop := inR x1
def ans_X3_ruleOf (x1 : Int) (σ : St) : Int := if 0 ≤ x1 ∧ x1 < 100 then σ 63 x1 else -1
abbrev post_X3_ruleOf (x1 : Int) (σ : St) (r : Int) (σ' : St) : Prop := r = ans_X3_ruleOf x1 σ ∧ σ' = σ
def pre_X6_nodeRule (x1 : Int) (σ : St) : Prop := True
def post_X6_nodeRule (x1 : Int) (σ : St) (r : Int) (σ' : St) : Prop := True
def pre_X3_startOf (x1 : Int) (σ : St) : Prop := inR x1
def ans_X3_startOf (x1 : Int) (σ : St) : Int := if 0 ≤ x1 ∧ x1 < 100 then σ 65 x1 else -1
abbrev post_X3_startOf (x1 : Int) (σ : St) (r : Int) (σ' : St) : Prop := r = ans_X3_startOf x1 σ ∧ σ' = σ
def pre_X6_nodeStart (x1 : Int) (σ : St) : Prop := True
def post_X6_nodeStart (x1 : Int) (σ : St) (r : Int) (σ' : St) : Prop := True
def pre_X3_endOf (x1 : Int) (σ : St) : Prop := inR x1
def ans_X3_endOf (x1 : Int) (σ : St) : Int := if 0 ≤ x1 ∧ x1 < 100 then σ 67 x1 else -1
abbrev post_X3_endOf (x1 : Int) (σ : St) (r : Int) (σ' : St) : Prop := r = ans_X3_endOf x1 σ ∧ σ' = σ
def pre_X6_nodeEnd (x1 : Int) (σ : St) : Prop := True
def post_X6_nodeEnd (x1 : Int) (σ : St) (r : Int) (σ' : St) : Prop := True
def pre_X3_parentOf (x1 : Int) (σ : St) : Prop := inR x1
def ans_X3_parentOf (x1 : Int) (σ : St) : Int := if 0 ≤ x1 ∧ x1 < 100 then σ 69 x1 else -1
abbrev post_X3_parentOf (x1 : Int) (σ : St) (r : Int) (σ' : St) : Prop := r = ans_X3_parentOf x1 σ ∧ σ' = σ
def pre_X6_nodeParent (x1 : Int) (σ : St) : Prop := True
def post_X6_nodeParent (x1 : Int) (σ : St) (r : Int) (σ' : St) : Prop := True
def pre_X3_depthOf (x1 : Int) (σ : St) : Prop := inR x1
def ans_X3_depthOf (x1 : Int) (σ : St) : Int := if 0 ≤ x1 ∧ x1 < 100 then σ 71 x1 else -1
abbrev post_X3_depthOf (x1 : Int) (σ : St) (r : Int) (σ' : St) : Prop := r = ans_X3_depthOf x1 σ ∧ σ' = σ
def pre_X6_nodeDepth (x1 : Int) (σ : St) : Prop := True
def post_X6_nodeDepth (x1 : Int) (σ : St) (r : Int) (σ' : St) : Prop := True
def pre_X3_waterOf (x1 : Int) (σ : St) : Prop := inR x1
def ans_X3_waterOf (x1 : Int) (σ : St) : Int := if 0 ≤ x1 ∧ x1 < 100 then σ 73 x1 else -1
abbrev post_X3_waterOf (x1 : Int) (σ : St) (r : Int) (σ' : St) : Prop := r = ans_X3_waterOf x1 σ ∧ σ' = σ
def pre_X6_nodeWater (x1 : Int) (σ : St) : Prop := True
def post_X6_nodeWater (x1 : Int) (σ : St) (r : Int) (σ' : St) : Prop := True
def pre_X3_numberOf (x1 : Int) (σ : St) : Prop := inR x1
def ans_X3_numberOf (x1 : Int) (σ : St) : Int := if 0 ≤ x1 ∧ x1 < 100 then σ 75 x1 else -1
abbrev post_X3_numberOf (x1 : Int) (σ : St) (r : Int) (σ' : St) : Prop := r = ans_X3_numberOf x1 σ ∧ σ' = σ
def pre_X6_nodeNumber (x1 : Int) (σ : St) : Prop := True
def post_X6_nodeNumber (x1 : Int) (σ : St) (r : Int) (σ' : St) : Prop := True
def pre_X3_innermostAt (x1 : Int) (σ : St) : Prop := True
def post_X3_innermostAt (x1 : Int) (σ : St) (r : Int) (σ' : St) : Prop := True
def pre_X6_nodeAt (x1 : Int) (σ : St) : Prop := True
def post_X6_nodeAt (x1 : Int) (σ : St) (r : Int) (σ' : St) : Prop := True
def pre_X3_topWater (σ : St) : Prop := True
def ans_X3_topWater (σ : St) : Int := σ 61 13
abbrev post_X3_topWater (σ : St) (r : Int) (σ' : St) : Prop := r = ans_X3_topWater σ ∧ σ' = σ
def pre_X6_waterLength (σ : St) : Prop := True
def post_X6_waterLength (σ : St) (r : Int) (σ' : St) : Prop := True
def pre_X3_longestTopWater (σ : St) : Prop := True
def ans_X3_longestTopWater (σ : St) : Int := σ 61 15
abbrev post_X3_longestTopWater (σ : St) (r : Int) (σ' : St) : Prop := r = ans_X3_longestTopWater σ ∧ σ' = σ
def pre_X6_longestWater (σ : St) : Prop := True
def post_X6_longestWater (σ : St) (r : Int) (σ' : St) : Prop := True
def pre_X3_totalOf (x1 : Int) (σ : St) : Prop := True
def post_X3_totalOf (x1 : Int) (σ : St) (r : Int) (σ' : St) : Prop := True
def pre_X6_countOf (x1 : Int) (σ : St) : Prop := True
def post_X6_countOf (x1 : Int) (σ : St) (r : Int) (σ' : St) : Prop := True
def pre_X1_savedCount (σ : St) : Prop := True
def ans_X1_savedCount (σ : St) : Int := σ 10 2
abbrev post_X1_savedCount (σ : St) (r : Int) (σ' : St) : Prop := r = ans_X1_savedCount σ ∧ σ' = σ
def pre_X1_restore (σ : St) : Prop := 0 ≤ σ 10 1 ∧ σ 10 1 ≤ 3 ∧ 1 ≤ σ 10 2 ∧ σ 10 2 ≤ 4
def eff_X1_restore (σ : St) : St := up (eff_X5_copyFrom 1 (ans_X1_slotAt (if 0 < σ 10 1 then σ 10 1 - 1 else 3) σ) (up σ 10 1 (if 0 < σ 10 1 then σ 10 1 - 1 else 3))) 10 2 (max (σ 10 2 - 1) 0)
abbrev post_X1_restore (σ : St) (σ' : St) : Prop := σ' = eff_X1_restore σ
def pre_X6_undo (σ : St) : Prop := pre_X1_save σ
def ans_X6_undo (σ : St) : Int := if σ 10 2 = 0 then (-3) else σ 10 2 - 1
def eff_X6_undo (σ : St) : St := if σ 10 2 = 0 then eff_X6_fail (-3) σ else up (eff_X1_restore σ) 0 7 1
abbrev post_X6_undo (σ : St) (r : Int) (σ' : St) : Prop := r = ans_X6_undo σ ∧ σ' = eff_X6_undo σ
def pre_X6_errorCount (x1 : Int) (σ : St) : Prop := inR x1
def ans_X6_errorCount (x1 : Int) (σ : St) : Int := if 0 ≤ x1 ∧ x1 < 3 then σ 51 x1 else (-2)
def eff_X6_errorCount (x1 : Int) (σ : St) : St := if 0 ≤ x1 ∧ x1 < 3 then σ else eff_X6_fail (-2) σ
abbrev post_X6_errorCount (x1 : Int) (σ : St) (r : Int) (σ' : St) : Prop := r = ans_X6_errorCount x1 σ ∧ σ' = eff_X6_errorCount x1 σ
def pre_X6_mix (x0 x2 : Int) (σ : St) : Prop := True
def ans_X6_mix (x0 x2 : Int) (σ : St) : Int := 31 * x0 + x2
abbrev post_X6_mix (x0 x2 : Int) (σ : St) (r : Int) (σ' : St) : Prop := r = ans_X6_mix x0 x2 σ ∧ σ' = σ
def pre_X4_mixInto (k nn : Nat) (x1 x3 x4 : Int) (σ : St) : Prop := True
def post_X4_mixInto (k nn : Nat) (x1 x3 x4 : Int) (σ : St) (r : Int) (σ' : St) : Prop := True
def pre_X5_mixInto (x1 : Int) (σ : St) : Prop := True
def post_X5_mixInto (x1 : Int) (σ : St) (r : Int) (σ' : St) : Prop := True
def pre_X3_mixInto (x1 : Int) (σ : St) : Prop := True
def post_X3_mixInto (x1 : Int) (σ : St) (r : Int) (σ' : St) : Prop := True
def pre_X6_digest (σ : St) : Prop := True
def post_X6_digest (σ : St) (r : Int) (σ' : St) : Prop := True
def pre_X7_in (x0 x1 x2 : Int) (σ : St) : Prop := inR x0 ∧ inR x1 ∧ inR x2
def ans_X7_in (x0 x1 x2 : Int) (σ : St) : Int := if x1 ≤ x0 ∧ x0 ≤ x2 then 1 else 0
abbrev post_X7_in (x0 x1 x2 : Int) (σ : St) (r : Int) (σ' : St) : Prop := r = ans_X7_in x0 x1 x2 σ ∧ σ' = σ
def pre_X7_fail (x1 : Int) (σ : St) : Prop := -4 ≤ x1 ∧ x1 ≤ -2
def ans_X7_fail (x1 : Int) (σ : St) : Int := x1
def eff_X7_fail (x1 : Int) (σ : St) : St := up σ 84 (-2 - x1) (σ 84 (-2 - x1) + 1)
abbrev post_X7_fail (x1 : Int) (σ : St) (r : Int) (σ' : St) : Prop := r = ans_X7_fail x1 σ ∧ σ' = eff_X7_fail x1 σ
def pre_X7_save (σ : St) : Prop := 0 ≤ σ 80 2 ∧ σ 80 2 ≤ 4
def eff_X7_save (σ : St) : St := up (ur σ 82 (fun j => if 161 * (if σ 80 2 = 4 then 3 else σ 80 2) ≤ j ∧ j < 161 * (if σ 80 2 = 4 then 3 else σ 80 2) + 161 then σ 81 (j - 161 * (if σ 80 2 = 4 then 3 else σ 80 2)) else if σ 80 2 = 4 ∧ 0 ≤ j ∧ j < 483 then σ 82 (j + 161) else σ 82 j)) 80 2 ((if σ 80 2 = 4 then 3 else σ 80 2) + 1)
abbrev post_X7_save (σ : St) (σ' : St) : Prop := σ' = eff_X7_save σ
def pre_X7_isByte (x0 : Int) (σ : St) : Prop := inR x0
def ans_X7_isByte (x0 : Int) (σ : St) : Int := if 32 ≤ x0 ∧ x0 ≤ 126 then 1 else 0
abbrev post_X7_isByte (x0 : Int) (σ : St) (r : Int) (σ' : St) : Prop := r = ans_X7_isByte x0 σ ∧ σ' = σ
def pre_X7_isPosition (x1 : Int) (σ : St) : Prop := inR x1 ∧ 0 ≤ σ 81 0 ∧ σ 81 0 ≤ 100
def ans_X7_isPosition (x1 : Int) (σ : St) : Int := if 0 ≤ x1 ∧ x1 < σ 81 0 then 1 else 0
abbrev post_X7_isPosition (x1 : Int) (σ : St) (r : Int) (σ' : St) : Prop := r = ans_X7_isPosition x1 σ ∧ σ' = σ
def pre_X7_insert (x1 x2 : Int) (σ : St) : Prop := inR x1 ∧ inR x2 ∧ 0 ≤ σ 81 0 ∧ σ 81 0 ≤ 100 ∧ 0 ≤ σ 80 2 ∧ σ 80 2 ≤ 4
def ans_X7_insert (x1 x2 : Int) (σ : St) : Int := if ¬ (0 ≤ x1 ∧ x1 ≤ σ 81 0 ∧ 32 ≤ x2 ∧ x2 ≤ 126) then (-2) else if 100 ≤ σ 81 0 then (-4) else σ 81 0 + 1
def eff_X7_insert (x1 x2 : Int) (σ : St) : St := if ¬ (0 ≤ x1 ∧ x1 ≤ σ 81 0 ∧ 32 ≤ x2 ∧ x2 ≤ 126) then eff_X7_fail (-2) σ else if 100 ≤ σ 81 0 then eff_X7_fail (-4) σ else ur (eff_X7_save σ) 81 (fun j => if j = 0 then σ 81 0 + 1 else if j = 1 + x1 then x2 else if 1 + x1 < j ∧ j ≤ 1 + σ 81 0 then σ 81 (j - 1) else σ 81 j)
abbrev post_X7_insert (x1 x2 : Int) (σ : St) (r : Int) (σ' : St) : Prop := r = ans_X7_insert x1 x2 σ ∧ σ' = eff_X7_insert x1 x2 σ
def pre_X7_replace (x1 x2 : Int) (σ : St) : Prop := inR x1 ∧ inR x2 ∧ 0 ≤ σ 81 0 ∧ σ 81 0 ≤ 100 ∧ 0 ≤ σ 80 2 ∧ σ 80 2 ≤ 4
def ans_X7_replace (x1 x2 : Int) (σ : St) : Int := if ¬ (0 ≤ x1 ∧ x1 < σ 81 0 ∧ 32 ≤ x2 ∧ x2 ≤ 126) then (-2) else σ 81 (1 + x1)
def eff_X7_replace (x1 x2 : Int) (σ : St) : St := if ¬ (0 ≤ x1 ∧ x1 < σ 81 0 ∧ 32 ≤ x2 ∧ x2 ≤ 126) then eff_X7_fail (-2) σ else up (eff_X7_save σ) 81 (1 + x1) x2
abbrev post_X7_replace (x1 x2 : Int) (σ : St) (r : Int) (σ' : St) : Prop := r = ans_X7_replace x1 x2 σ ∧ σ' = eff_X7_replace x1 x2 σ
def pre_X7_delete (x1 x2 : Int) (σ : St) : Prop := inR x1 ∧ inR x2 ∧ 0 ≤ σ 81 0 ∧ σ 81 0 ≤ 100 ∧ 0 ≤ σ 80 2 ∧ σ 80 2 ≤ 4
def ans_X7_delete (x1 x2 : Int) (σ : St) : Int := if ¬ (0 ≤ x1 ∧ x1 < σ 81 0 ∧ 1 ≤ x2 ∧ x2 ≤ σ 81 0 - x1) then (-2) else σ 81 0 - x2
def eff_X7_delete (x1 x2 : Int) (σ : St) : St := if ¬ (0 ≤ x1 ∧ x1 < σ 81 0 ∧ 1 ≤ x2 ∧ x2 ≤ σ 81 0 - x1) then eff_X7_fail (-2) σ else ur (eff_X7_save σ) 81 (fun j => if j = 0 then σ 81 0 - x2 else if 1 + x1 ≤ j ∧ j < 1 + σ 81 0 - x2 then σ 81 (j + x2) else σ 81 j)
abbrev post_X7_delete (x1 x2 : Int) (σ : St) (r : Int) (σ' : St) : Prop := r = ans_X7_delete x1 x2 σ ∧ σ' = eff_X7_delete x1 x2 σ
def pre_X7_length (σ : St) : Prop := True
def ans_X7_length (σ : St) : Int := σ 81 0
abbrev post_X7_length (σ : St) (r : Int) (σ' : St) : Prop := r = ans_X7_length σ ∧ σ' = σ
def pre_X7_byteAt (x1 : Int) (σ : St) : Prop := inR x1 ∧ 0 ≤ σ 81 0 ∧ σ 81 0 ≤ 100
def ans_X7_byteAt (x1 : Int) (σ : St) : Int := if 0 ≤ x1 ∧ x1 < σ 81 0 then σ 81 (1 + x1) else (-2)
def eff_X7_byteAt (x1 : Int) (σ : St) : St := if 0 ≤ x1 ∧ x1 < σ 81 0 then σ else eff_X7_fail (-2) σ
abbrev post_X7_byteAt (x1 : Int) (σ : St) (r : Int) (σ' : St) : Prop := r = ans_X7_byteAt x1 σ ∧ σ' = eff_X7_byteAt x1 σ
def pre_X7_isRule (x0 : Int) (σ : St) : Prop := inR x0
def ans_X7_isRule (x0 : Int) (σ : St) : Int := if 0 ≤ x0 ∧ x0 < 6 then 1 else 0
abbrev post_X7_isRule (x0 : Int) (σ : St) (r : Int) (σ' : St) : Prop := r = ans_X7_isRule x0 σ ∧ σ' = σ
def pre_X7_append (x1 : Int) (σ : St) : Prop := inR x1 ∧ 0 ≤ σ 80 4 ∧ σ 80 4 ≤ 8
def ans_X7_append (x1 : Int) (σ : St) : Int := if ¬ (32 ≤ x1 ∧ x1 ≤ 126) then (-2) else if 8 ≤ σ 80 4 then (-4) else σ 80 4 + 1
def eff_X7_append (x1 : Int) (σ : St) : St := if ¬ (32 ≤ x1 ∧ x1 ≤ 126) then eff_X7_fail (-2) σ else if 8 ≤ σ 80 4 then eff_X7_fail (-4) σ else up (up σ 83 (σ 80 4) x1) 80 4 (σ 80 4 + 1)
abbrev post_X7_append (x1 : Int) (σ : St) (r : Int) (σ' : St) : Prop := r = ans_X7_append x1 σ ∧ σ' = eff_X7_append x1 σ
def pre_X7_clearPattern (σ : St) : Prop := True
def ans_X7_clearPattern (σ : St) : Int := σ 80 4
def eff_X7_clearPattern (σ : St) : St := up σ 80 4 0
abbrev post_X7_clearPattern (σ : St) (r : Int) (σ' : St) : Prop := r = ans_X7_clearPattern σ ∧ σ' = eff_X7_clearPattern σ
def pre_X7_isReference (x0 : Int) (σ : St) : Prop := inR x0
def ans_X7_isReference (x0 : Int) (σ : St) : Int := if 65 ≤ x0 ∧ x0 ≤ 70 then 1 else 0
abbrev post_X7_isReference (x0 : Int) (σ : St) (r : Int) (σ' : St) : Prop := r = ans_X7_isReference x0 σ ∧ σ' = σ
def pre_X7_define (x1 : Int) (σ : St) : Prop := inR x1 ∧ 0 ≤ σ 80 4 ∧ σ 80 4 ≤ 8 ∧ inR (σ 83 0) ∧ 0 ≤ σ 80 2 ∧ σ 80 2 ≤ 4
def ans_X7_define (x1 : Int) (σ : St) : Int := if ¬ (0 ≤ x1 ∧ x1 < 6) then (-2) else if σ 80 4 = 0 ∨ (σ 83 0 = 126 ∨ (65 ≤ σ 83 0 ∧ σ 83 0 ≤ 70)) then (-3) else σ 80 4
def eff_X7_define (x1 : Int) (σ : St) : St := if ¬ (0 ≤ x1 ∧ x1 < 6) then eff_X7_fail (-2) σ else if σ 80 4 = 0 ∨ (σ 83 0 = 126 ∨ (65 ≤ σ 83 0 ∧ σ 83 0 ≤ 70)) then eff_X7_fail (-3) σ else ur (eff_X7_save σ) 81 (fun j => if j = 101 + x1 then σ 80 4 else if 107 + 8 * x1 ≤ j ∧ j < 107 + 8 * x1 + σ 80 4 then σ 83 (j - (107 + 8 * x1)) else σ 81 j)
abbrev post_X7_define (x1 : Int) (σ : St) (r : Int) (σ' : St) : Prop := r = ans_X7_define x1 σ ∧ σ' = eff_X7_define x1 σ
def pre_X7_undefine (x1 : Int) (σ : St) : Prop := inR x1 ∧ 0 ≤ σ 80 2 ∧ σ 80 2 ≤ 4
def ans_X7_undefine (x1 : Int) (σ : St) : Int := if ¬ (0 ≤ x1 ∧ x1 < 6) then (-2) else σ 81 (101 + x1)
def eff_X7_undefine (x1 : Int) (σ : St) : St := if ¬ (0 ≤ x1 ∧ x1 < 6) then eff_X7_fail (-2) σ else up (eff_X7_save σ) 81 (101 + x1) 0
abbrev post_X7_undefine (x1 : Int) (σ : St) (r : Int) (σ' : St) : Prop := r = ans_X7_undefine x1 σ ∧ σ' = eff_X7_undefine x1 σ
def pre_X7_setStop (x1 x2 : Int) (σ : St) : Prop := inR x1 ∧ inR x2 ∧ 0 ≤ σ 80 2 ∧ σ 80 2 ≤ 4
def ans_X7_setStop (x1 x2 : Int) (σ : St) : Int := if ¬ (0 ≤ x1 ∧ x1 < 6 ∧ (x2 = -1 ∨ (32 ≤ x2 ∧ x2 ≤ 126))) then (-2) else σ 81 (155 + x1)
def eff_X7_setStop (x1 x2 : Int) (σ : St) : St := if ¬ (0 ≤ x1 ∧ x1 < 6 ∧ (x2 = -1 ∨ (32 ≤ x2 ∧ x2 ≤ 126))) then eff_X7_fail (-2) σ else up (eff_X7_save σ) 81 (155 + x1) x2
abbrev post_X7_setStop (x1 x2 : Int) (σ : St) (r : Int) (σ' : St) : Prop := r = ans_X7_setStop x1 x2 σ ∧ σ' = eff_X7_setStop x1 x2 σ
def pre_X7_elementOf (x1 x2 : Int) (σ : St) : Prop := 0 ≤ x1 ∧ x1 < 6 ∧ 0 ≤ x2 ∧ x2 < 8
def ans_X7_elementOf (x1 x2 : Int) (σ : St) : Int := σ 81 (107 + 8 * x1 + x2)
abbrev post_X7_elementOf (x1 x2 : Int) (σ : St) (r : Int) (σ' : St) : Prop := r = ans_X7_elementOf x1 x2 σ ∧ σ' = σ
def pre_X7_element (x1 x2 : Int) (σ : St) : Prop := inR x1 ∧ inR x2 ∧ ∀ r, 0 ≤ r → r < 6 → 0 ≤ σ 81 (101 + r) ∧ σ 81 (101 + r) ≤ 8
def ans_X7_element (x1 x2 : Int) (σ : St) : Int := if ¬ (0 ≤ x1 ∧ x1 < 6 ∧ 0 ≤ x2) then (-2) else (if x2 < σ 81 (101 + x1) then σ 81 (107 + 8 * x1 + x2) else -1)
def eff_X7_element (x1 x2 : Int) (σ : St) : St := if ¬ (0 ≤ x1 ∧ x1 < 6 ∧ 0 ≤ x2) then eff_X7_fail (-2) σ else σ
abbrev post_X7_element (x1 x2 : Int) (σ : St) (r : Int) (σ' : St) : Prop := r = ans_X7_element x1 x2 σ ∧ σ' = eff_X7_element x1 x2 σ
def pre_X7_cell (x0 x1 x2 : Int) (σ : St) : Prop := True
def ans_X7_cell (x0 x1 x2 : Int) (σ : St) : Int := 101 * (9 * x0 + x1) + x2
abbrev post_X7_cell (x0 x1 x2 : Int) (σ : St) (r : Int) (σ' : St) : Prop := r = ans_X7_cell x0 x1 x2 σ ∧ σ' = σ
def pre_X7_isOf (x1 x2 x3 : Int) (σ : St) : Prop := 0 ≤ x1 ∧ x1 ≤ 100 ∧ 0 ≤ σ 81 0 ∧ σ 81 0 ≤ 100 ∧ inR x2 ∧ inR x3 ∧ (x1 < σ 81 0 → inR (σ 81 (1 + x1)))
def ans_X7_isOf (x1 x2 x3 : Int) (σ : St) : Int := if x1 < σ 81 0 ∧ x2 ≤ σ 81 (1 + x1) ∧ σ 81 (1 + x1) ≤ x3 then 1 else 0
abbrev post_X7_isOf (x1 x2 x3 : Int) (σ : St) (r : Int) (σ' : St) : Prop := r = ans_X7_isOf x1 x2 x3 σ ∧ σ' = σ
def pre_X7_runEnd (x1 x2 x3 : Int) (σ : St) : Prop := 0 ≤ x1 ∧ x1 ≤ σ 81 0 ∧ gWF (mg (σ 81) 0) ∧ inR x2 ∧ inR x3
def ans_X7_runEnd (x1 x2 x3 : Int) (σ : St) : Int := RE (mg (σ 81) 0) x2 x3 x1
abbrev post_X7_runEnd (x1 x2 x3 : Int) (σ : St) (r : Int) (σ' : St) : Prop := r = ans_X7_runEnd x1 x2 x3 σ ∧ σ' = σ
def pre_X7_elementEnd (x1 x2 : Int) (σ : St) : Prop := 32 ≤ x1 ∧ x1 ≤ 126 ∧ 0 ≤ x2 ∧ x2 ≤ σ 81 0 ∧ gWF (mg (σ 81) 0)
def ans_X7_elementEnd (x1 x2 : Int) (σ : St) : Int := eE (mg (σ 81) 0) (mt σ) x1 x2
abbrev post_X7_elementEnd (x1 x2 : Int) (σ : St) (r : Int) (σ' : St) : Prop := r = ans_X7_elementEnd x1 x2 σ ∧ σ' = σ
def pre_X7_islandAt (x1 : Int) (σ : St) : Prop := 0 ≤ x1 ∧ x1 ≤ 100 ∧ M8 σ
def ans_X7_islandAt (x1 : Int) (σ : St) : Int := first (mt σ) x1
abbrev post_X7_islandAt (x1 : Int) (σ : St) (r : Int) (σ' : St) : Prop := r = ans_X7_islandAt x1 σ ∧ σ' = σ
def pre_X7_waterEnd (x1 x2 x3 : Int) (σ : St) : Prop := 0 ≤ x1 ∧ x1 < 6 ∧ 0 ≤ x2 ∧ x2 ≤ 7 ∧ 0 ≤ x3 ∧ x3 ≤ σ 81 0 ∧ gWF (mg (σ 81) 0) ∧ M8 σ
def ans_X7_waterEnd (x1 x2 x3 : Int) (σ : St) : Int := if mt σ x1 (x2 + 1) x3 ≠ -1 then mt σ x1 (x2 + 1) x3 else if first (mt σ) x3 ≠ -1 then mt σ x1 x2 (mt σ (first (mt σ) x3) 0 x3) else if x3 = gl (mg (σ 81) 0) ∨ gt (mg (σ 81) 0) x3 = gp (mg (σ 81) 0) x1 then -1 else mt σ x1 x2 (x3 + 1)
abbrev post_X7_waterEnd (x1 x2 x3 : Int) (σ : St) (r : Int) (σ' : St) : Prop := r = ans_X7_waterEnd x1 x2 x3 σ ∧ σ' = σ
def pre_X7_suffixEnd (x1 x2 x3 : Int) (σ : St) : Prop := 0 ≤ x1 ∧ x1 < 6 ∧ 0 ≤ x2 ∧ x2 ≤ σ 81 (101 + x1) ∧ 0 ≤ x3 ∧ x3 ≤ σ 81 0 ∧ gWF (mg (σ 81) 0) ∧ M8 σ
def ans_X7_suffixEnd (x1 x2 x3 : Int) (σ : St) : Int := rhs (mg (σ 81) 0) (mt σ) x1 x2 x3
abbrev post_X7_suffixEnd (x1 x2 x3 : Int) (σ : St) (r : Int) (σ' : St) : Prop := r = ans_X7_suffixEnd x1 x2 x3 σ ∧ σ' = σ
def pre_X7_findEnds (σ : St) : Prop := gWF (mg (σ 81) 0) ∧ M8 σ
def post_X7_findEnds (σ : St) (σ' : St) : Prop := M8 σ' ∧ (∀ q, q ≠ 85 → σ' q = σ q) ∧ Good (mg (σ 81) 0) (mt σ')
def pre_X7_matchEnd (x1 x2 : Int) (σ : St) : Prop := True
def post_X7_matchEnd (x1 x2 : Int) (σ : St) (r : Int) (σ' : St) : Prop := True
def pre_X7_addNode (x1 x2 x3 : Int) (σ : St) : Prop := True
def post_X7_addNode (x1 x2 x3 : Int) (σ : St) (σ' : St) : Prop := True
def pre_X7_endOf (x1 : Int) (σ : St) : Prop := True
def post_X7_endOf (x1 : Int) (σ : St) (r : Int) (σ' : St) : Prop := True
def pre_X7_numberAt (x1 : Int) (σ : St) : Prop := True
def post_X7_numberAt (x1 : Int) (σ : St) (r : Int) (σ' : St) : Prop := True
def pre_X7_followWater (x1 x2 x3 : Int) (σ : St) : Prop := True
def post_X7_followWater (x1 x2 x3 : Int) (σ : St) (r : Int) (σ' : St) : Prop := True
def pre_X7_follow (x1 : Int) (σ : St) : Prop := True
def post_X7_follow (x1 : Int) (σ : St) (σ' : St) : Prop := True
def pre_X7_parse (σ : St) : Prop := True
def post_X7_parse (σ : St) (σ' : St) : Prop := True
def pre_X7_numberOf (x1 : Int) (σ : St) : Prop := True
def post_X7_numberOf (x1 : Int) (σ : St) (r : Int) (σ' : St) : Prop := True
def pre_X7_foundOf (x1 : Int) (σ : St) : Prop := True
def post_X7_foundOf (x1 : Int) (σ : St) (r : Int) (σ' : St) : Prop := True
def pre_X7_depthOf (x1 : Int) (σ : St) : Prop := True
def post_X7_depthOf (x1 : Int) (σ : St) (r : Int) (σ' : St) : Prop := True
def pre_X7_parentOf (x1 : Int) (σ : St) : Prop := True
def post_X7_parentOf (x1 : Int) (σ : St) (r : Int) (σ' : St) : Prop := True
def pre_X7_askNode (x1 x2 : Int) (σ : St) : Prop := True
def post_X7_askNode (x1 x2 : Int) (σ : St) (r : Int) (σ' : St) : Prop := True
def pre_X7_nodeCount (σ : St) : Prop := True
def post_X7_nodeCount (σ : St) (r : Int) (σ' : St) : Prop := True
def pre_X7_islandCount (σ : St) : Prop := True
def post_X7_islandCount (σ : St) (r : Int) (σ' : St) : Prop := True
def pre_X7_nodeRule (x1 : Int) (σ : St) : Prop := True
def post_X7_nodeRule (x1 : Int) (σ : St) (r : Int) (σ' : St) : Prop := True
def pre_X7_nodeStart (x1 : Int) (σ : St) : Prop := True
def post_X7_nodeStart (x1 : Int) (σ : St) (r : Int) (σ' : St) : Prop := True
def pre_X7_nodeEnd (x1 : Int) (σ : St) : Prop := True
def post_X7_nodeEnd (x1 : Int) (σ : St) (r : Int) (σ' : St) : Prop := True
def pre_X7_nodeParent (x1 : Int) (σ : St) : Prop := True
def post_X7_nodeParent (x1 : Int) (σ : St) (r : Int) (σ' : St) : Prop := True
def pre_X7_nodeDepth (x1 : Int) (σ : St) : Prop := True
def post_X7_nodeDepth (x1 : Int) (σ : St) (r : Int) (σ' : St) : Prop := True
def pre_X7_nodeWater (x1 : Int) (σ : St) : Prop := True
def post_X7_nodeWater (x1 : Int) (σ : St) (r : Int) (σ' : St) : Prop := True
def pre_X7_nodeNumber (x1 : Int) (σ : St) : Prop := True
def post_X7_nodeNumber (x1 : Int) (σ : St) (r : Int) (σ' : St) : Prop := True
def pre_X7_nodeAt (x1 : Int) (σ : St) : Prop := True
def post_X7_nodeAt (x1 : Int) (σ : St) (r : Int) (σ' : St) : Prop := True
def pre_X7_waterLength (σ : St) : Prop := True
def post_X7_waterLength (σ : St) (r : Int) (σ' : St) : Prop := True
def pre_X7_longestWater (σ : St) : Prop := True
def post_X7_longestWater (σ : St) (r : Int) (σ' : St) : Prop := True
def pre_X7_countOf (x1 : Int) (σ : St) : Prop := True
def post_X7_countOf (x1 : Int) (σ : St) (r : Int) (σ' : St) : Prop := True
def pre_X7_undo (σ : St) : Prop := 0 ≤ σ 80 2 ∧ σ 80 2 ≤ 4
def ans_X7_undo (σ : St) : Int := if σ 80 2 = 0 then (-3) else σ 80 2 - 1
def eff_X7_undo (σ : St) : St := if σ 80 2 = 0 then eff_X7_fail (-3) σ else ur (up σ 80 2 (σ 80 2 - 1)) 81 (fun j => if 0 ≤ j ∧ j < 161 then σ 82 (161 * (σ 80 2 - 1) + j) else σ 81 j)
abbrev post_X7_undo (σ : St) (r : Int) (σ' : St) : Prop := r = ans_X7_undo σ ∧ σ' = eff_X7_undo σ
def pre_X7_errorCount (x1 : Int) (σ : St) : Prop := inR x1
def ans_X7_errorCount (x1 : Int) (σ : St) : Int := if 0 ≤ x1 ∧ x1 < 3 then σ 84 x1 else (-2)
def eff_X7_errorCount (x1 : Int) (σ : St) : St := if 0 ≤ x1 ∧ x1 < 3 then σ else eff_X7_fail (-2) σ
abbrev post_X7_errorCount (x1 : Int) (σ : St) (r : Int) (σ' : St) : Prop := r = ans_X7_errorCount x1 σ ∧ σ' = eff_X7_errorCount x1 σ
def pre_X7_mix (x1 : Int) (σ : St) : Prop := inR x1
def eff_X7_mix (x1 : Int) (σ : St) : St := up σ 80 16 (31 * σ 80 16 + x1)
abbrev post_X7_mix (x1 : Int) (σ : St) (σ' : St) : Prop := σ' = eff_X7_mix x1 σ
def pre_X7_mixRules (σ : St) : Prop := True
def post_X7_mixRules (σ : St) (σ' : St) : Prop := True
def pre_X7_digest (σ : St) : Prop := True
def post_X7_digest (σ : St) (r : Int) (σ' : St) : Prop := True
end
section
def V_X5_textSize (σ : St) (Q : Int → St → Prop) : Prop := Q (σ 1 4) σ
def V_X6_isByte (x0 : Int) (σ : St) (Q : Int → St → Prop) : Prop := (inR x0 ∧ ((x0 < 32 → Q 0 σ) ∧ (¬ (x0 < 32) → ((126 < x0 → Q 0 σ) ∧ (¬ (126 < x0) → Q 1 σ)))))
def V_X4_get (k nn : Nat) (x1 : Int) (σ : St) (Q : Int → St → Prop) : Prop := (inR x1 ∧ ((x1 < 0 → Q (-1) σ) ∧ (¬ (x1 < 0) → (inR (nn : Int) ∧ (((nn : Int) ≤ x1 → Q (-1) σ) ∧ (¬ ((nn : Int) ≤ x1) → (((0 : Int) ≤ x1 ∧ (x1 : Int) < (nn : Int)) ∧ Q (σ (k+1) x1) σ)))))))
def V_X4_set (k nn : Nat) (x1 x2 : Int) (σ : St) (Q : St → Prop) : Prop := (inR x1 ∧ ((x1 < 0 → Q σ) ∧ (¬ (x1 < 0) → (inR (nn : Int) ∧ (((nn : Int) ≤ x1 → Q σ) ∧ (¬ ((nn : Int) ≤ x1) → (((0 : Int) ≤ x1 ∧ (x1 : Int) < (nn : Int)) ∧ (∀ s6 : St, s6 = up σ (k+1) x1 x2 → Q s6))))))))
def V_X6_fail (x1 : Int) (σ : St) (Q : Int → St → Prop) : Prop := (pre_X4_get 50 3 ((-2) - x1) σ ∧ (∀ r4 : Int, r4 = ans_X4_get 50 3 ((-2) - x1) σ → (pre_X4_set 50 3 ((-2) - x1) (r4 + 1) σ ∧ (∀ s6 : St, s6 = eff_X4_set 50 3 ((-2) - x1) (r4 + 1) σ → Q x1 s6))))
def V_X1_slotAt (x1 : Int) (σ : St) (Q : Nat → St → Prop) : Prop := (inR x1 ∧ ((x1 < 0 → (((0 : Int) ≤ 0 ∧ (0 : Int) < 4) ∧ (∀ q4 : Nat, q4 = 12 + 9 * Int.toNat 0 → Q q4 σ))) ∧ (¬ (x1 < 0) → ((4 ≤ x1 → (((0 : Int) ≤ 0 ∧ (0 : Int) < 4) ∧ (∀ q7 : Nat, q7 = 12 + 9 * Int.toNat 0 → Q q7 σ))) ∧ (¬ (4 ≤ x1) → (((0 : Int) ≤ x1 ∧ (x1 : Int) < 4) ∧ (∀ q9 : Nat, q9 = 12 + 9 * Int.toNat x1 → Q q9 σ)))))))
def L_X4_copyFrom_16 (k nn : Nat) (k2 nn2 : Nat) (Q : St → Prop) (y2 : Int) : Nat → Int → St → Prop
  | 0, _, _ => False
  | n + 1, y3, σ => (inR y3 ∧ (inR y2 ∧ ((y2 ≤ y3 → Q σ) ∧ (¬ (y2 ≤ y3) → (((0 : Int) ≤ y3 ∧ (y3 : Int) < (nn2 : Int)) ∧ (((0 : Int) ≤ y3 ∧ (y3 : Int) < (nn : Int)) ∧ (∀ s9 : St, s9 = up σ (k+1) y3 (σ (k2+1) y3) → L_X4_copyFrom_16 k nn k2 nn2 Q y2 n (y3 + 1) s9)))))))
def V_X4_copyFrom (k nn : Nat) (k2 nn2 : Nat) (σ : St) (Q : St → Prop) : Prop := (inR (nn : Int) ∧ (inR (nn2 : Int) ∧ (∀ r3 : Int, r3 = min (nn : Int) (nn2 : Int) → (∃ n_, L_X4_copyFrom_16 k nn k2 nn2 Q r3 n_ 0 σ))))
def V_X5_copyFrom (b : Nat) (b2 : Nat) (σ : St) (Q : St → Prop) : Prop := (∀ s1 : St, s1 = up σ b 4 (σ b2 4) → (pre_X4_copyFrom (b+1) 100 (b2+1) 100 s1 ∧ (∀ s3 : St, s3 = eff_X4_copyFrom (b+1) 100 (b2+1) 100 s1 → (pre_X4_copyFrom (b+3) 6 (b2+3) 6 s3 ∧ (∀ s6 : St, s6 = eff_X4_copyFrom (b+3) 6 (b2+3) 6 s3 → (pre_X4_copyFrom (b+5) 48 (b2+5) 48 s6 ∧ (∀ s9 : St, s9 = eff_X4_copyFrom (b+5) 48 (b2+5) 48 s6 → (pre_X4_copyFrom (b+7) 6 (b2+7) 6 s9 ∧ (∀ s12 : St, s12 = eff_X4_copyFrom (b+7) 6 (b2+7) 6 s9 → Q s12)))))))))
def V_X1_save (σ : St) (Q : St → Prop) : Prop := (pre_X1_slotAt (σ 10 1) σ ∧ (∀ q4 : Nat, q4 = ans_X1_slotAt (σ 10 1) σ → (isSt q4 ∧ (pre_X5_copyFrom q4 1 σ ∧ (∀ s6 : St, s6 = eff_X5_copyFrom q4 1 σ → (inR ((s6 10 1) + 1) ∧ ((4 ≤ ((s6 10 1) + 1) → (∀ s10 : St, s10 = up s6 10 1 0 → (inR ((s10 10 2) + 1) ∧ (∀ r12 : Int, r12 = min ((s10 10 2) + 1) 4 → (∀ s13 : St, s13 = up s10 10 2 r12 → Q s13))))) ∧ (¬ (4 ≤ ((s6 10 1) + 1)) → (∀ s14 : St, s14 = up s6 10 1 ((s6 10 1) + 1) → (inR ((s14 10 2) + 1) ∧ (∀ r16 : Int, r16 = min ((s14 10 2) + 1) 4 → (∀ s17 : St, s17 = up s14 10 2 r16 → Q s17))))))))))))
def V_X6_prepareChange (σ : St) (Q : St → Prop) : Prop := (pre_X1_save σ ∧ (∀ s2 : St, s2 = eff_X1_save σ → (∀ s4 : St, s4 = up s2 0 7 1 → Q s4)))
def L_X5_insertByte_5 (Q : St → Prop) (y1 y2 : Int) : Nat → Int → St → Prop
  | 0, _, _ => False
  | n + 1, y3, σ => (inR y3 ∧ (inR y1 ∧ ((y3 ≤ y1 → (pre_X4_set 2 100 y1 y2 σ ∧ (∀ s5 : St, s5 = eff_X4_set 2 100 y1 y2 σ → (∀ s7 : St, s7 = up s5 1 4 ((s5 1 4) + 1) → Q s7)))) ∧ (¬ (y3 ≤ y1) → (pre_X4_get 2 100 (y3 - 1) σ ∧ (∀ r11 : Int, r11 = ans_X4_get 2 100 (y3 - 1) σ → (pre_X4_set 2 100 y3 r11 σ ∧ (∀ s13 : St, s13 = eff_X4_set 2 100 y3 r11 σ → L_X5_insertByte_5 Q y1 y2 n (y3 + (-1)) s13))))))))
def V_X5_insertByte (x1 x2 : Int) (σ : St) (Q : St → Prop) : Prop := (∃ n_, L_X5_insertByte_5 Q x1 x2 n_ (σ 1 4) σ)
def V_X6_insert (x1 x2 : Int) (σ : St) (Q : Int → St → Prop) : Prop := (inR x1 ∧ ((x1 < 0 → (pre_X6_fail (-2) σ ∧ (∀ r6 : Int, r6 = ans_X6_fail (-2) σ → ∀ s4 : St, s4 = eff_X6_fail (-2) σ → Q r6 s4))) ∧ (¬ (x1 < 0) → (pre_X5_textSize σ ∧ (∀ r10 : Int, r10 = ans_X5_textSize σ → (inR r10 ∧ ((r10 < x1 → (pre_X6_fail (-2) σ ∧ (∀ r16 : Int, r16 = ans_X6_fail (-2) σ → ∀ s14 : St, s14 = eff_X6_fail (-2) σ → Q r16 s14))) ∧ (¬ (r10 < x1) → (pre_X6_isByte x2 σ ∧ (∀ r20 : Int, r20 = ans_X6_isByte x2 σ → (inR r20 ∧ ((¬ r20 = 0 → (pre_X5_textSize σ ∧ (∀ r26 : Int, r26 = ans_X5_textSize σ → (inR r26 ∧ ((r26 < 100 → (pre_X6_prepareChange σ ∧ (∀ s30 : St, s30 = eff_X6_prepareChange σ → (pre_X5_insertByte x1 x2 s30 ∧ (∀ s33 : St, s33 = eff_X5_insertByte x1 x2 s30 → (pre_X5_textSize s33 ∧ (∀ r38 : Int, r38 = ans_X5_textSize s33 → Q r38 s33))))))) ∧ (¬ (r26 < 100) → (pre_X6_fail (-4) σ ∧ (∀ r42 : Int, r42 = ans_X6_fail (-4) σ → ∀ s40 : St, s40 = eff_X6_fail (-4) σ → Q r42 s40)))))))) ∧ (r20 = 0 → (pre_X6_fail (-2) σ ∧ (∀ r46 : Int, r46 = ans_X6_fail (-2) σ → ∀ s44 : St, s44 = eff_X6_fail (-2) σ → Q r46 s44)))))))))))))))
def V_X6_isInText (x1 : Int) (σ : St) (Q : Int → St → Prop) : Prop := (inR x1 ∧ ((x1 < 0 → Q 0 σ) ∧ (¬ (x1 < 0) → (pre_X5_textSize σ ∧ (∀ r6 : Int, r6 = ans_X5_textSize σ → (inR r6 ∧ ((r6 ≤ x1 → Q 0 σ) ∧ (¬ (r6 ≤ x1) → Q 1 σ))))))))
def V_X5_textAt (x1 : Int) (σ : St) (Q : Int → St → Prop) : Prop := (inR x1 ∧ (inR (σ 1 4) ∧ (((σ 1 4) ≤ x1 → Q (-1) σ) ∧ (¬ ((σ 1 4) ≤ x1) → (pre_X4_get 2 100 x1 σ ∧ (∀ r7 : Int, r7 = ans_X4_get 2 100 x1 σ → Q r7 σ))))))
def V_X5_setByte (x1 x2 : Int) (σ : St) (Q : St → Prop) : Prop := (pre_X4_set 2 100 x1 x2 σ ∧ (∀ s2 : St, s2 = eff_X4_set 2 100 x1 x2 σ → Q s2))
def V_X6_replace (x1 x2 : Int) (σ : St) (Q : Int → St → Prop) : Prop := (pre_X6_isInText x1 σ ∧ (∀ r4 : Int, r4 = ans_X6_isInText x1 σ → (inR r4 ∧ ((r4 = 0 → (pre_X6_fail (-2) σ ∧ (∀ r10 : Int, r10 = ans_X6_fail (-2) σ → ∀ s8 : St, s8 = eff_X6_fail (-2) σ → Q r10 s8))) ∧ (¬ (r4 = 0) → (pre_X6_isByte x2 σ ∧ (∀ r14 : Int, r14 = ans_X6_isByte x2 σ → (inR r14 ∧ ((¬ r14 = 0 → (pre_X5_textAt x1 σ ∧ (∀ r20 : Int, r20 = ans_X5_textAt x1 σ → (pre_X6_prepareChange σ ∧ (∀ s22 : St, s22 = eff_X6_prepareChange σ → (pre_X5_setByte x1 x2 s22 ∧ (∀ s25 : St, s25 = eff_X5_setByte x1 x2 s22 → Q r20 s25))))))) ∧ (r14 = 0 → (pre_X6_fail (-2) σ ∧ (∀ r30 : Int, r30 = ans_X6_fail (-2) σ → ∀ s28 : St, s28 = eff_X6_fail (-2) σ → Q r30 s28))))))))))))
def L_X5_removeBytes_12 (Q : St → Prop) (y2 : Int) : Nat → Int → St → Prop
  | 0, _, _ => False
  | n + 1, y3, σ => (inR y3 ∧ (inR (σ 1 4) ∧ (((σ 1 4) ≤ y3 → Q σ) ∧ (¬ ((σ 1 4) ≤ y3) → (pre_X4_get 2 100 (y3 + y2) σ ∧ (∀ r8 : Int, r8 = ans_X4_get 2 100 (y3 + y2) σ → (pre_X4_set 2 100 y3 r8 σ ∧ (∀ s10 : St, s10 = eff_X4_set 2 100 y3 r8 σ → L_X5_removeBytes_12 Q y2 n (y3 + 1) s10))))))))
def V_X5_removeBytes (x1 x2 : Int) (σ : St) (Q : St → Prop) : Prop := (∀ s1 : St, s1 = up σ 1 4 ((σ 1 4) - x2) → (∃ n_, L_X5_removeBytes_12 Q x2 n_ x1 s1))
def V_X6_delete (x1 x2 : Int) (σ : St) (Q : Int → St → Prop) : Prop := (pre_X6_isInText x1 σ ∧ (∀ r4 : Int, r4 = ans_X6_isInText x1 σ → (inR r4 ∧ ((r4 = 0 → (pre_X6_fail (-2) σ ∧ (∀ r10 : Int, r10 = ans_X6_fail (-2) σ → ∀ s8 : St, s8 = eff_X6_fail (-2) σ → Q r10 s8))) ∧ (¬ (r4 = 0) → (inR x2 ∧ ((x2 < 1 → (pre_X6_fail (-2) σ ∧ (∀ r16 : Int, r16 = ans_X6_fail (-2) σ → ∀ s14 : St, s14 = eff_X6_fail (-2) σ → Q r16 s14))) ∧ (¬ (x2 < 1) → (pre_X5_textSize σ ∧ (∀ r20 : Int, r20 = ans_X5_textSize σ → (inR (r20 - x1) ∧ ((x2 ≤ (r20 - x1) → (pre_X6_prepareChange σ ∧ (∀ s24 : St, s24 = eff_X6_prepareChange σ → (pre_X5_removeBytes x1 x2 s24 ∧ (∀ s27 : St, s27 = eff_X5_removeBytes x1 x2 s24 → (pre_X5_textSize s27 ∧ (∀ r32 : Int, r32 = ans_X5_textSize s27 → Q r32 s27))))))) ∧ (¬ (x2 ≤ (r20 - x1)) → (pre_X6_fail (-2) σ ∧ (∀ r36 : Int, r36 = ans_X6_fail (-2) σ → ∀ s34 : St, s34 = eff_X6_fail (-2) σ → Q r36 s34)))))))))))))))
def V_X6_length (σ : St) (Q : Int → St → Prop) : Prop := (pre_X5_textSize σ ∧ (∀ r4 : Int, r4 = ans_X5_textSize σ → Q r4 σ))
def V_X6_byteAt (x1 : Int) (σ : St) (Q : Int → St → Prop) : Prop := (pre_X6_isInText x1 σ ∧ (∀ r4 : Int, r4 = ans_X6_isInText x1 σ → (inR r4 ∧ ((r4 = 0 → (pre_X6_fail (-2) σ ∧ (∀ r10 : Int, r10 = ans_X6_fail (-2) σ → ∀ s8 : St, s8 = eff_X6_fail (-2) σ → Q r10 s8))) ∧ (¬ (r4 = 0) → (pre_X5_textAt x1 σ ∧ (∀ r14 : Int, r14 = ans_X5_textAt x1 σ → Q r14 σ)))))))
def V_X6_append (x1 : Int) (σ : St) (Q : Int → St → Prop) : Prop := (pre_X6_isByte x1 σ ∧ (∀ r4 : Int, r4 = ans_X6_isByte x1 σ → (inR r4 ∧ ((¬ r4 = 0 → (inR (σ 0 6) ∧ (((σ 0 6) < 8 → (pre_X4_set 48 8 (σ 0 6) x1 σ ∧ (∀ s10 : St, s10 = eff_X4_set 48 8 (σ 0 6) x1 σ → (∀ s12 : St, s12 = up s10 0 6 ((s10 0 6) + 1) → Q (s12 0 6) s12)))) ∧ (¬ ((σ 0 6) < 8) → (pre_X6_fail (-4) σ ∧ (∀ r16 : Int, r16 = ans_X6_fail (-4) σ → ∀ s14 : St, s14 = eff_X6_fail (-4) σ → Q r16 s14)))))) ∧ (r4 = 0 → (pre_X6_fail (-2) σ ∧ (∀ r20 : Int, r20 = ans_X6_fail (-2) σ → ∀ s18 : St, s18 = eff_X6_fail (-2) σ → Q r20 s18)))))))
def V_X6_clearPattern (σ : St) (Q : Int → St → Prop) : Prop := (∀ s1 : St, s1 = up σ 0 6 0 → Q (σ 0 6) s1)
def V_X6_isRule (x0 : Int) (σ : St) (Q : Int → St → Prop) : Prop := (inR x0 ∧ ((x0 < 0 → Q 0 σ) ∧ (¬ (x0 < 0) → ((6 ≤ x0 → Q 0 σ) ∧ (¬ (6 ≤ x0) → Q 1 σ)))))
def V_X6_isReference (x0 : Int) (σ : St) (Q : Int → St → Prop) : Prop := (inR x0 ∧ ((x0 < 65 → Q 0 σ) ∧ (¬ (x0 < 65) → ((70 < x0 → Q 0 σ) ∧ (¬ (70 < x0) → Q 1 σ)))))
def V_X6_canStartPattern (x0 : Int) (σ : St) (Q : Int → St → Prop) : Prop := (inR x0 ∧ ((x0 = 126 → Q 0 σ) ∧ (¬ (x0 = 126) → (pre_X6_isReference x0 σ ∧ (∀ r6 : Int, r6 = ans_X6_isReference x0 σ → (inR r6 ∧ ((¬ r6 = 0 → Q 0 σ) ∧ (r6 = 0 → Q 1 σ))))))))
def L_X5_setPattern_12 (Q : St → Prop) (y1 y3 : Int) : Nat → Int → St → Prop
  | 0, _, _ => False
  | n + 1, y4, σ => (inR y4 ∧ (inR y3 ∧ ((y3 ≤ y4 → Q σ) ∧ (¬ (y3 ≤ y4) → (pre_X4_get 48 8 y4 σ ∧ (∀ r10 : Int, r10 = ans_X4_get 48 8 y4 σ → (pre_X4_set 6 48 ((y1 * 8) + y4) r10 σ ∧ (∀ s12 : St, s12 = eff_X4_set 6 48 ((y1 * 8) + y4) r10 σ → L_X5_setPattern_12 Q y1 y3 n (y4 + 1) s12))))))))
def V_X5_setPattern (x1 x3 : Int) (σ : St) (Q : St → Prop) : Prop := (pre_X4_set 4 6 x1 x3 σ ∧ (∀ s2 : St, s2 = eff_X4_set 4 6 x1 x3 σ → (∃ n_, L_X5_setPattern_12 Q x1 x3 n_ 0 s2)))
def V_X6_define (x1 : Int) (σ : St) (Q : Int → St → Prop) : Prop := (pre_X6_isRule x1 σ ∧ (∀ r4 : Int, r4 = ans_X6_isRule x1 σ → (inR r4 ∧ ((¬ r4 = 0 → (inR (σ 0 6) ∧ (((σ 0 6) = 0 → (pre_X6_fail (-3) σ ∧ (∀ r12 : Int, r12 = ans_X6_fail (-3) σ → ∀ s10 : St, s10 = eff_X6_fail (-3) σ → Q r12 s10))) ∧ (¬ ((σ 0 6) = 0) → (pre_X4_get 48 8 0 σ ∧ (∀ r16 : Int, r16 = ans_X4_get 48 8 0 σ → (pre_X6_canStartPattern r16 σ ∧ (∀ r20 : Int, r20 = ans_X6_canStartPattern r16 σ → (inR r20 ∧ ((¬ r20 = 0 → (pre_X6_prepareChange σ ∧ (∀ s24 : St, s24 = eff_X6_prepareChange σ → (pre_X5_setPattern x1 (s24 0 6) s24 ∧ (∀ s27 : St, s27 = eff_X5_setPattern x1 (s24 0 6) s24 → Q (s27 0 6) s27))))) ∧ (r20 = 0 → (pre_X6_fail (-3) σ ∧ (∀ r32 : Int, r32 = ans_X6_fail (-3) σ → ∀ s30 : St, s30 = eff_X6_fail (-3) σ → Q r32 s30))))))))))))) ∧ (r4 = 0 → (pre_X6_fail (-2) σ ∧ (∀ r36 : Int, r36 = ans_X6_fail (-2) σ → ∀ s34 : St, s34 = eff_X6_fail (-2) σ → Q r36 s34)))))))
def V_X5_patternSize (x1 : Int) (σ : St) (Q : Int → St → Prop) : Prop := (pre_X4_get 4 6 x1 σ ∧ (∀ r4 : Int, r4 = ans_X4_get 4 6 x1 σ → Q r4 σ))
def V_X6_undefine (x1 : Int) (σ : St) (Q : Int → St → Prop) : Prop := (pre_X6_isRule x1 σ ∧ (∀ r4 : Int, r4 = ans_X6_isRule x1 σ → (inR r4 ∧ ((¬ r4 = 0 → (pre_X5_patternSize x1 σ ∧ (∀ r10 : Int, r10 = ans_X5_patternSize x1 σ → (pre_X6_prepareChange σ ∧ (∀ s12 : St, s12 = eff_X6_prepareChange σ → (pre_X5_setPattern x1 0 s12 ∧ (∀ s15 : St, s15 = eff_X5_setPattern x1 0 s12 → Q r10 s15))))))) ∧ (r4 = 0 → (pre_X6_fail (-2) σ ∧ (∀ r20 : Int, r20 = ans_X6_fail (-2) σ → ∀ s18 : St, s18 = eff_X6_fail (-2) σ → Q r20 s18)))))))
def V_X5_stopOf (x1 : Int) (σ : St) (Q : Int → St → Prop) : Prop := (pre_X4_get 8 6 x1 σ ∧ (∀ r4 : Int, r4 = ans_X4_get 8 6 x1 σ → Q r4 σ))
def V_X5_putStop (x1 x2 : Int) (σ : St) (Q : St → Prop) : Prop := (pre_X4_set 8 6 x1 x2 σ ∧ (∀ s2 : St, s2 = eff_X4_set 8 6 x1 x2 σ → Q s2))
def V_X6_setStop (x1 x2 : Int) (σ : St) (Q : Int → St → Prop) : Prop := (pre_X6_isRule x1 σ ∧ (∀ r4 : Int, r4 = ans_X6_isRule x1 σ → (inR r4 ∧ ((r4 = 0 → (pre_X6_fail (-2) σ ∧ (∀ r10 : Int, r10 = ans_X6_fail (-2) σ → ∀ s8 : St, s8 = eff_X6_fail (-2) σ → Q r10 s8))) ∧ (¬ (r4 = 0) → (inR x2 ∧ ((x2 = (-1) → (pre_X5_stopOf x1 σ ∧ (∀ r16 : Int, r16 = ans_X5_stopOf x1 σ → (pre_X6_prepareChange σ ∧ (∀ s18 : St, s18 = eff_X6_prepareChange σ → (pre_X5_putStop x1 x2 s18 ∧ (∀ s21 : St, s21 = eff_X5_putStop x1 x2 s18 → Q r16 s21))))))) ∧ (¬ (x2 = (-1)) → (pre_X6_isByte x2 σ ∧ (∀ r26 : Int, r26 = ans_X6_isByte x2 σ → (inR r26 ∧ ((¬ r26 = 0 → (pre_X5_stopOf x1 σ ∧ (∀ r32 : Int, r32 = ans_X5_stopOf x1 σ → (pre_X6_prepareChange σ ∧ (∀ s34 : St, s34 = eff_X6_prepareChange σ → (pre_X5_putStop x1 x2 s34 ∧ (∀ s37 : St, s37 = eff_X5_putStop x1 x2 s34 → Q r32 s37))))))) ∧ (r26 = 0 → (pre_X6_fail (-2) σ ∧ (∀ r42 : Int, r42 = ans_X6_fail (-2) σ → ∀ s40 : St, s40 = eff_X6_fail (-2) σ → Q r42 s40)))))))))))))))
def V_X5_patternAt (x1 x2 : Int) (σ : St) (Q : Int → St → Prop) : Prop := (pre_X4_get 6 48 ((x1 * 8) + x2) σ ∧ (∀ r4 : Int, r4 = ans_X4_get 6 48 ((x1 * 8) + x2) σ → Q r4 σ))
def V_X6_element (x1 x2 : Int) (σ : St) (Q : Int → St → Prop) : Prop := (pre_X6_isRule x1 σ ∧ (∀ r4 : Int, r4 = ans_X6_isRule x1 σ → (inR r4 ∧ ((r4 = 0 → (pre_X6_fail (-2) σ ∧ (∀ r10 : Int, r10 = ans_X6_fail (-2) σ → ∀ s8 : St, s8 = eff_X6_fail (-2) σ → Q r10 s8))) ∧ (¬ (r4 = 0) → (inR x2 ∧ ((0 ≤ x2 → (pre_X5_patternSize x1 σ ∧ (∀ r16 : Int, r16 = ans_X5_patternSize x1 σ → (inR r16 ∧ ((r16 ≤ x2 → Q (-1) σ) ∧ (¬ (r16 ≤ x2) → (pre_X5_patternAt x1 x2 σ ∧ (∀ r22 : Int, r22 = ans_X5_patternAt x1 x2 σ → Q r22 σ)))))))) ∧ (¬ (0 ≤ x2) → (pre_X6_fail (-2) σ ∧ (∀ r26 : Int, r26 = ans_X6_fail (-2) σ → ∀ s24 : St, s24 = eff_X6_fail (-2) σ → Q r26 s24))))))))))
def V_X6_isDigit (x0 : Int) (σ : St) (Q : Int → St → Prop) : Prop := (inR x0 ∧ ((x0 < 48 → Q 0 σ) ∧ (¬ (x0 < 48) → ((57 < x0 → Q 0 σ) ∧ (¬ (57 < x0) → Q 1 σ)))))
def V_X2_runEnd (k nn : Nat) (x1 : Int) (σ : St) (Q : Int → St → Prop) : Prop := (pre_X4_get k nn (x1 + 1) σ ∧ (∀ r4 : Int, r4 = ans_X4_get k nn (x1 + 1) σ → (inR r4 ∧ ((¬ r4 = (-1) → Q r4 σ) ∧ (r4 = (-1) → Q (x1 + 1) σ)))))
def V_X6_isLetter (x0 : Int) (σ : St) (Q : Int → St → Prop) : Prop := (inR x0 ∧ ((x0 < 97 → Q 0 σ) ∧ (¬ (x0 < 97) → ((122 < x0 → Q 0 σ) ∧ (¬ (122 < x0) → Q 1 σ)))))
def V_X2_markRuns (x1 : Int) (σ : St) (Q : St → Prop) : Prop := (pre_X5_textAt x1 σ ∧ (∀ r4 : Int, r4 = ans_X5_textAt x1 σ → (pre_X6_isDigit r4 σ ∧ (∀ r8 : Int, r8 = ans_X6_isDigit r4 σ → (inR r8 ∧ ((r8 = 0 → (pre_X4_set 53 101 x1 (-1) σ ∧ (∀ s12 : St, s12 = eff_X4_set 53 101 x1 (-1) σ → (pre_X6_isLetter r4 s12 ∧ (∀ r17 : Int, r17 = ans_X6_isLetter r4 s12 → (inR r17 ∧ ((r17 = 0 → (pre_X4_set 55 101 x1 (-1) s12 ∧ (∀ s21 : St, s21 = eff_X4_set 55 101 x1 (-1) s12 → Q s21))) ∧ (¬ (r17 = 0) → (pre_X2_runEnd 55 101 x1 s12 ∧ (∀ r26 : Int, r26 = ans_X2_runEnd 55 101 x1 s12 → (pre_X4_set 55 101 x1 r26 s12 ∧ (∀ s28 : St, s28 = eff_X4_set 55 101 x1 r26 s12 → Q s28)))))))))))) ∧ (¬ (r8 = 0) → (pre_X2_runEnd 53 101 x1 σ ∧ (∀ r33 : Int, r33 = ans_X2_runEnd 53 101 x1 σ → (pre_X4_set 53 101 x1 r33 σ ∧ (∀ s35 : St, s35 = eff_X4_set 53 101 x1 r33 σ → (pre_X6_isLetter r4 s35 ∧ (∀ r40 : Int, r40 = ans_X6_isLetter r4 s35 → (inR r40 ∧ ((r40 = 0 → (pre_X4_set 55 101 x1 (-1) s35 ∧ (∀ s44 : St, s44 = eff_X4_set 55 101 x1 (-1) s35 → Q s44))) ∧ (¬ (r40 = 0) → (pre_X2_runEnd 55 101 x1 s35 ∧ (∀ r49 : Int, r49 = ans_X2_runEnd 55 101 x1 s35 → (pre_X4_set 55 101 x1 r49 s35 ∧ (∀ s51 : St, s51 = eff_X4_set 55 101 x1 r49 s35 → Q s51))))))))))))))))))))
def V_X0_get (x1 x2 x3 : Int) (σ : St) (Q : Int → St → Prop) : Prop := (inR x3 ∧ ((x3 < 0 → Q (-1) σ) ∧ (¬ (x3 < 0) → (inR ((((x1 * 9) + x2) * 101) + x3) ∧ ((((((x1 * 9) + x2) * 101) + x3) < 0 → Q (-1) σ) ∧ (¬ (((((x1 * 9) + x2) * 101) + x3) < 0) → ((5454 ≤ ((((x1 * 9) + x2) * 101) + x3) → Q (-1) σ) ∧ (¬ (5454 ≤ ((((x1 * 9) + x2) * 101) + x3)) → (((0 : Int) ≤ ((((x1 * 9) + x2) * 101) + x3) ∧ (((((x1 * 9) + x2) * 101) + x3) : Int) < 5454) ∧ Q (σ 60 ((((x1 * 9) + x2) * 101) + x3)) σ)))))))))
def V_X2_elementEnd (x1 x2 : Int) (σ : St) (Q : Int → St → Prop) : Prop := (inR x1 ∧ ((¬ x1 = 35 → ((¬ x1 = 64 → (pre_X6_isReference x1 σ ∧ (∀ r7 : Int, r7 = ans_X6_isReference x1 σ → (inR r7 ∧ ((r7 = 0 → (pre_X5_textAt x2 σ ∧ (∀ r13 : Int, r13 = ans_X5_textAt x2 σ → (inR r13 ∧ ((¬ r13 = x1 → Q (-1) σ) ∧ (r13 = x1 → Q (x2 + 1) σ)))))) ∧ (¬ (r7 = 0) → (pre_X0_get (x1 - 65) 0 x2 σ ∧ (∀ r19 : Int, r19 = ans_X0_get (x1 - 65) 0 x2 σ → Q r19 σ)))))))) ∧ (x1 = 64 → (pre_X4_get 55 101 x2 σ ∧ (∀ r23 : Int, r23 = ans_X4_get 55 101 x2 σ → Q r23 σ))))) ∧ (x1 = 35 → (pre_X4_get 53 101 x2 σ ∧ (∀ r27 : Int, r27 = ans_X4_get 53 101 x2 σ → Q r27 σ)))))
def V_X0_set (x1 x2 x3 x4 : Int) (σ : St) (Q : St → Prop) : Prop := (inR x3 ∧ ((x3 < 0 → Q σ) ∧ (¬ (x3 < 0) → (inR ((((x1 * 9) + x2) * 101) + x3) ∧ ((((((x1 * 9) + x2) * 101) + x3) < 0 → Q σ) ∧ (¬ (((((x1 * 9) + x2) * 101) + x3) < 0) → ((5454 ≤ ((((x1 * 9) + x2) * 101) + x3) → Q σ) ∧ (¬ (5454 ≤ ((((x1 * 9) + x2) * 101) + x3)) → (((0 : Int) ≤ ((((x1 * 9) + x2) * 101) + x3) ∧ (((((x1 * 9) + x2) * 101) + x3) : Int) < 5454) ∧ (∀ s7 : St, s7 = up σ 60 ((((x1 * 9) + x2) * 101) + x3) x4 → Q s7))))))))))
def L_X2_matchIslands_11 (Q : St → Prop) (y1 : Int) : Nat → Int → St → Prop
  | 0, _, _ => False
  | n + 1, y2, σ => (inR y2 ∧ ((y2 < 0 → Q σ) ∧ (¬ (y2 < 0) → (pre_X5_patternSize y2 σ ∧ (∀ r9 : Int, r9 = ans_X5_patternSize y2 σ → (inR r9 ∧ ((r9 ≤ 0 → (pre_X0_set y2 0 y1 (-1) σ ∧ (∀ s13 : St, s13 = eff_X0_set y2 0 y1 (-1) σ → L_X2_matchIslands_11 Q y1 n (y2 + (-1)) s13))) ∧ (¬ (r9 ≤ 0) → (pre_X5_patternAt y2 0 σ ∧ (∀ r18 : Int, r18 = ans_X5_patternAt y2 0 σ → (pre_X2_elementEnd r18 y1 σ ∧ (∀ r22 : Int, r22 = ans_X2_elementEnd r18 y1 σ → (pre_X0_get y2 1 r22 σ ∧ (∀ r26 : Int, r26 = ans_X0_get y2 1 r22 σ → (pre_X0_set y2 0 y1 r26 σ ∧ (∀ s28 : St, s28 = eff_X0_set y2 0 y1 r26 σ → (inR r26 ∧ ((r26 = (-1) → L_X2_matchIslands_11 Q y1 n (y2 + (-1)) s28) ∧ (¬ (r26 = (-1)) → (pre_X4_set 57 101 y1 y2 s28 ∧ (∀ s33 : St, s33 = eff_X4_set 57 101 y1 y2 s28 → L_X2_matchIslands_11 Q y1 n (y2 + (-1)) s33)))))))))))))))))))))
def V_X2_matchIslands (x1 : Int) (σ : St) (Q : St → Prop) : Prop := (pre_X4_set 57 101 x1 (-1) σ ∧ (∀ s2 : St, s2 = eff_X4_set 57 101 x1 (-1) σ → (∃ n_, L_X2_matchIslands_11 Q x1 n_ 5 s2)))
def V_X2_waterRestEnd (x1 x2 x3 : Int) (σ : St) (Q : Int → St → Prop) : Prop := (pre_X0_get x1 (x2 + 1) x3 σ ∧ (∀ r4 : Int, r4 = ans_X0_get x1 (x2 + 1) x3 σ → (inR r4 ∧ ((r4 = (-1) → (pre_X4_get 57 101 x3 σ ∧ (∀ r10 : Int, r10 = ans_X4_get 57 101 x3 σ → (inR r10 ∧ ((r10 = (-1) → (pre_X5_textAt x3 σ ∧ (∀ r16 : Int, r16 = ans_X5_textAt x3 σ → (inR r16 ∧ ((r16 = (-1) → Q (-1) σ) ∧ (¬ (r16 = (-1)) → (pre_X5_stopOf x1 σ ∧ (∀ r22 : Int, r22 = ans_X5_stopOf x1 σ → (inR r22 ∧ ((¬ r16 = r22 → (pre_X0_get x1 x2 (x3 + 1) σ ∧ (∀ r28 : Int, r28 = ans_X0_get x1 x2 (x3 + 1) σ → Q r28 σ))) ∧ (r16 = r22 → Q (-1) σ))))))))))) ∧ (¬ (r10 = (-1)) → (pre_X0_get r10 0 x3 σ ∧ (∀ r32 : Int, r32 = ans_X0_get r10 0 x3 σ → (pre_X0_get x1 x2 r32 σ ∧ (∀ r36 : Int, r36 = ans_X0_get x1 x2 r32 σ → Q r36 σ)))))))))) ∧ (¬ (r4 = (-1)) → Q r4 σ)))))
def L_X2_matchRests_29 (Q : St → Prop) (y1 y2 : Int) : Nat → Int → St → Prop
  | 0, _, _ => False
  | n + 1, y4, σ => (inR y4 ∧ ((y4 ≤ 0 → Q σ) ∧ (¬ (y4 ≤ 0) → (pre_X5_patternAt y1 y4 σ ∧ (∀ r12 : Int, r12 = ans_X5_patternAt y1 y4 σ → (inR r12 ∧ ((¬ r12 = 126 → (pre_X2_elementEnd r12 y2 σ ∧ (∀ r18 : Int, r18 = ans_X2_elementEnd r12 y2 σ → (pre_X0_get y1 (y4 + 1) r18 σ ∧ (∀ r22 : Int, r22 = ans_X0_get y1 (y4 + 1) r18 σ → (pre_X0_set y1 y4 y2 r22 σ ∧ (∀ s24 : St, s24 = eff_X0_set y1 y4 y2 r22 σ → L_X2_matchRests_29 Q y1 y2 n (y4 + (-1)) s24))))))) ∧ (r12 = 126 → (pre_X2_waterRestEnd y1 y4 y2 σ ∧ (∀ r29 : Int, r29 = ans_X2_waterRestEnd y1 y4 y2 σ → (pre_X0_set y1 y4 y2 r29 σ ∧ (∀ s31 : St, s31 = eff_X0_set y1 y4 y2 r29 σ → L_X2_matchRests_29 Q y1 y2 n (y4 + (-1)) s31))))))))))))
def V_X2_matchRests (x1 x2 : Int) (σ : St) (Q : St → Prop) : Prop := (pre_X5_patternSize x1 σ ∧ (∀ r4 : Int, r4 = ans_X5_patternSize x1 σ → (inR r4 ∧ ((r4 ≤ 0 → (∃ n_, L_X2_matchRests_29 Q x1 x2 n_ (r4 - 1) σ)) ∧ (¬ (r4 ≤ 0) → (pre_X0_set x1 r4 x2 x2 σ ∧ (∀ s34 : St, s34 = eff_X0_set x1 r4 x2 x2 σ → (∃ n_, L_X2_matchRests_29 Q x1 x2 n_ (r4 - 1) s34))))))))
def L_X2_update_24 (Q : St → Prop) (K : St → Prop) (y1 : Int) : Nat → Int → St → Prop
  | 0, _, _ => False
  | n + 1, y2, σ => (inR y2 ∧ ((6 ≤ y2 → K σ) ∧ (¬ (6 ≤ y2) → (pre_X2_matchRests y2 y1 σ ∧ (∀ s16 : St, post_X2_matchRests y2 y1 σ s16 → L_X2_update_24 Q K y1 n (y2 + 1) s16)))))
def L_X2_update_8 (Q : St → Prop) : Nat → Int → St → Prop
  | 0, _, _ => False
  | n + 1, y1, σ => (inR y1 ∧ ((y1 < 0 → Q σ) ∧ (¬ (y1 < 0) → (pre_X2_markRuns y1 σ ∧ (∀ s8 : St, s8 = eff_X2_markRuns y1 σ → (pre_X2_matchIslands y1 s8 ∧ (∀ s11 : St, post_X2_matchIslands y1 s8 s11 → (∃ n_, L_X2_update_24 Q (fun  s18 => L_X2_update_8 Q n (y1 + (-1)) s18) y1 n_ 0 s11))))))))
def V_X2_update (σ : St) (Q : St → Prop) : Prop := (pre_X5_textSize σ ∧ (∀ r4 : Int, r4 = ans_X5_textSize σ → (∃ n_, L_X2_update_8 Q n_ r4 σ)))
def L_X4_fill_2 (k nn : Nat) (Q : St → Prop) (y1 : Int) : Nat → Int → St → Prop
  | 0, _, _ => False
  | n + 1, y2, σ => (inR y2 ∧ (inR (nn : Int) ∧ (((nn : Int) ≤ y2 → Q σ) ∧ (¬ ((nn : Int) ≤ y2) → (((0 : Int) ≤ y2 ∧ (y2 : Int) < (nn : Int)) ∧ (∀ s5 : St, s5 = up σ (k+1) y2 y1 → L_X4_fill_2 k nn Q y1 n (y2 + 1) s5))))))
def V_X4_fill (k nn : Nat) (x1 : Int) (σ : St) (Q : St → Prop) : Prop := (∃ n_, L_X4_fill_2 k nn Q x1 n_ 0 σ)
def V_X3_clear (σ : St) (Q : St → Prop) : Prop := (pre_X4_fill 76 100 (-1) σ ∧ (∀ s2 : St, s2 = eff_X4_fill 76 100 (-1) σ → (∀ s4 : St, s4 = up s2 61 11 0 → (∀ s5 : St, s5 = up s4 61 12 0 → (∀ s6 : St, s6 = up s5 61 13 0 → (∀ s7 : St, s7 = up s6 61 14 0 → (∀ s8 : St, s8 = up s7 61 15 0 → Q s8)))))))
def V_X2_firstRule (x1 : Int) (σ : St) (Q : Int → St → Prop) : Prop := (pre_X4_get 57 101 x1 σ ∧ (∀ r4 : Int, r4 = ans_X4_get 57 101 x1 σ → Q r4 σ))
def V_X3_announce (x1 x2 x3 : Int) (σ : St) (Q : St → Prop) : Prop := (pre_X4_set 76 100 x1 x2 σ ∧ (∀ s2 : St, s2 = eff_X4_set 76 100 x1 x2 σ → (pre_X4_set 78 100 x1 x3 s2 ∧ (∀ s5 : St, s5 = eff_X4_set 78 100 x1 x3 s2 → Q s5))))
def V_X2_islandEnd (x1 x2 : Int) (σ : St) (Q : Int → St → Prop) : Prop := (pre_X0_get x1 0 x2 σ ∧ (∀ r4 : Int, r4 = ans_X0_get x1 0 x2 σ → Q r4 σ))
def V_X3_takeTopLevel (x1 : Int) (σ : St) (Q : Int → St → Prop) : Prop := (pre_X2_firstRule x1 σ ∧ (∀ r4 : Int, r4 = ans_X2_firstRule x1 σ → (inR r4 ∧ ((¬ r4 = (-1) → (∀ s7 : St, s7 = up σ 61 14 0 → (∀ s8 : St, s8 = up s7 61 12 ((s7 61 12) + 1) → (pre_X3_announce x1 r4 (-1) s8 ∧ (∀ s10 : St, s10 = eff_X3_announce x1 r4 (-1) s8 → (pre_X2_islandEnd r4 x1 s10 ∧ (∀ r15 : Int, r15 = ans_X2_islandEnd r4 x1 s10 → Q r15 s10))))))) ∧ (r4 = (-1) → (∀ s16 : St, s16 = up σ 61 13 ((σ 61 13) + 1) → (∀ s17 : St, s17 = up s16 61 14 ((s16 61 14) + 1) → (inR (s17 61 15) ∧ (inR (s17 61 14) ∧ (∀ r20 : Int, r20 = max (s17 61 15) (s17 61 14) → (∀ s21 : St, s21 = up s17 61 15 r20 → Q (x1 + 1) s21)))))))))))
def V_X3_addNode (x1 : Int) (σ : St) (Q : St → Prop) : Prop := (pre_X4_get 76 100 x1 σ ∧ (∀ r4 : Int, r4 = ans_X4_get 76 100 x1 σ → (pre_X4_get 78 100 x1 σ ∧ (∀ r8 : Int, r8 = ans_X4_get 78 100 x1 σ → (pre_X4_set 62 100 (σ 61 11) r4 σ ∧ (∀ s10 : St, s10 = eff_X4_set 62 100 (σ 61 11) r4 σ → (pre_X4_set 64 100 (s10 61 11) x1 s10 ∧ (∀ s13 : St, s13 = eff_X4_set 64 100 (s10 61 11) x1 s10 → (pre_X2_islandEnd r4 x1 s13 ∧ (∀ r18 : Int, r18 = ans_X2_islandEnd r4 x1 s13 → (pre_X4_set 66 100 (s13 61 11) r18 s13 ∧ (∀ s20 : St, s20 = eff_X4_set 66 100 (s13 61 11) r18 s13 → (pre_X4_set 68 100 (s20 61 11) r8 s20 ∧ (∀ s23 : St, s23 = eff_X4_set 68 100 (s20 61 11) r8 s20 → (inR r8 ∧ ((¬ r8 = (-1) → (pre_X4_get 70 100 r8 s23 ∧ (∀ r30 : Int, r30 = ans_X4_get 70 100 r8 s23 → (pre_X4_set 70 100 (s23 61 11) (r30 + 1) s23 ∧ (∀ s32 : St, s32 = eff_X4_set 70 100 (s23 61 11) (r30 + 1) s23 → (pre_X4_set 72 100 (s32 61 11) 0 s32 ∧ (∀ s35 : St, s35 = eff_X4_set 72 100 (s32 61 11) 0 s32 → (pre_X4_set 74 100 (s35 61 11) (-1) s35 ∧ (∀ s38 : St, s38 = eff_X4_set 74 100 (s35 61 11) (-1) s35 → (∀ s40 : St, s40 = up s38 61 11 ((s38 61 11) + 1) → Q s40)))))))))) ∧ (r8 = (-1) → (pre_X4_set 70 100 (s23 61 11) 0 s23 ∧ (∀ s42 : St, s42 = eff_X4_set 70 100 (s23 61 11) 0 s23 → (pre_X4_set 72 100 (s42 61 11) 0 s42 ∧ (∀ s45 : St, s45 = eff_X4_set 72 100 (s42 61 11) 0 s42 → (pre_X4_set 74 100 (s45 61 11) (-1) s45 ∧ (∀ s48 : St, s48 = eff_X4_set 74 100 (s45 61 11) (-1) s45 → (∀ s50 : St, s50 = up s48 61 11 ((s48 61 11) + 1) → Q s50))))))))))))))))))))))))
def V_X2_restMatches (x1 x2 x3 : Int) (σ : St) (Q : Int → St → Prop) : Prop := (pre_X0_get x1 x2 x3 σ ∧ (∀ r4 : Int, r4 = ans_X0_get x1 x2 x3 σ → (inR r4 ∧ ((r4 = (-1) → Q 0 σ) ∧ (¬ (r4 = (-1)) → Q 1 σ)))))
def L_X3_walkWater_16 (Q : Int → St → Prop) (y1 y2 y4 : Int) : Nat → Int → Int → St → Prop
  | 0, _, _, _ => False
  | n + 1, y5, y6, σ => (inR y6 ∧ ((100 ≤ y6 → Q y5 σ) ∧ (¬ (100 ≤ y6) → (pre_X2_restMatches y4 (y2 + 1) y5 σ ∧ (∀ r10 : Int, r10 = ans_X2_restMatches y4 (y2 + 1) y5 σ → (inR r10 ∧ ((r10 = 0 → (pre_X2_firstRule y5 σ ∧ (∀ r16 : Int, r16 = ans_X2_firstRule y5 σ → (inR r16 ∧ ((¬ r16 = (-1) → (pre_X3_announce y5 r16 y1 σ ∧ (∀ s20 : St, s20 = eff_X3_announce y5 r16 y1 σ → (pre_X2_islandEnd r16 y5 s20 ∧ (∀ r25 : Int, r25 = ans_X2_islandEnd r16 y5 s20 → L_X3_walkWater_16 Q y1 y2 y4 n r25 (y6 + 1) s20))))) ∧ (r16 = (-1) → (pre_X4_get 72 100 y1 σ ∧ (∀ r29 : Int, r29 = ans_X4_get 72 100 y1 σ → (pre_X4_set 72 100 y1 (r29 + 1) σ ∧ (∀ s31 : St, s31 = eff_X4_set 72 100 y1 (r29 + 1) σ → L_X3_walkWater_16 Q y1 y2 y4 n (y5 + 1) (y6 + 1) s31)))))))))) ∧ (¬ (r10 = 0) → Q y5 σ))))))))
def V_X3_walkWater (x1 x2 x3 : Int) (σ : St) (Q : Int → St → Prop) : Prop := (pre_X4_get 62 100 x1 σ ∧ (∀ r4 : Int, r4 = ans_X4_get 62 100 x1 σ → (∃ n_, L_X3_walkWater_16 Q x1 x2 r4 n_ x3 0 σ)))
def L_X5_numberBetween_5 (Q : Int → St → Prop) (y2 : Int) : Nat → Int → Int → St → Prop
  | 0, _, _, _ => False
  | n + 1, y3, y4, σ => (inR y4 ∧ (inR y2 ∧ ((y2 ≤ y4 → Q y3 σ) ∧ (¬ (y2 ≤ y4) → (pre_X5_textAt y4 σ ∧ (∀ r7 : Int, r7 = ans_X5_textAt y4 σ → (((0 : Int) ≤ (((y3 * 10) + r7) - 48) ∧ (((y3 * 10) + r7) - 48) ≤ 2147483647) ∧ L_X5_numberBetween_5 Q y2 n ((((y3 * 10) + r7) - 48) % 1000000) (y4 + 1) σ)))))))
def V_X5_numberBetween (x1 x2 : Int) (σ : St) (Q : Int → St → Prop) : Prop := (∃ n_, L_X5_numberBetween_5 Q x2 n_ 0 x1 σ)
def L_X3_walkPattern_31 (Q : St → Prop) (y1 y2 y3 : Int) : Nat → Int → Int → St → Prop
  | 0, _, _, _ => False
  | n + 1, y4, y5, σ => (inR y5 ∧ (inR y3 ∧ ((y3 ≤ y5 → Q σ) ∧ (¬ (y3 ≤ y5) → (pre_X5_patternAt y2 y5 σ ∧ (∀ r19 : Int, r19 = ans_X5_patternAt y2 y5 σ → (inR r19 ∧ ((¬ r19 = 126 → (pre_X2_elementEnd r19 y4 σ ∧ (∀ r25 : Int, r25 = ans_X2_elementEnd r19 y4 σ → (pre_X6_isReference r19 σ ∧ (∀ r29 : Int, r29 = ans_X6_isReference r19 σ → (inR r29 ∧ ((r29 = 0 → ((¬ r19 = 35 → L_X3_walkPattern_31 Q y1 y2 y3 n r25 (y5 + 1) σ) ∧ (r19 = 35 → (pre_X4_get 74 100 y1 σ ∧ (∀ r36 : Int, r36 = ans_X4_get 74 100 y1 σ → (inR r36 ∧ ((¬ r36 = (-1) → L_X3_walkPattern_31 Q y1 y2 y3 n r25 (y5 + 1) σ) ∧ (r36 = (-1) → (pre_X5_numberBetween y4 r25 σ ∧ (∀ r42 : Int, r42 = ans_X5_numberBetween y4 r25 σ → (pre_X4_set 74 100 y1 r42 σ ∧ (∀ s44 : St, s44 = eff_X4_set 74 100 y1 r42 σ → L_X3_walkPattern_31 Q y1 y2 y3 n r25 (y5 + 1) s44)))))))))))) ∧ (¬ (r29 = 0) → (pre_X3_announce y4 (r19 - 65) y1 σ ∧ (∀ s47 : St, s47 = eff_X3_announce y4 (r19 - 65) y1 σ → ((¬ r19 = 35 → L_X3_walkPattern_31 Q y1 y2 y3 n r25 (y5 + 1) s47) ∧ (r19 = 35 → (pre_X4_get 74 100 y1 s47 ∧ (∀ r53 : Int, r53 = ans_X4_get 74 100 y1 s47 → (inR r53 ∧ ((¬ r53 = (-1) → L_X3_walkPattern_31 Q y1 y2 y3 n r25 (y5 + 1) s47) ∧ (r53 = (-1) → (pre_X5_numberBetween y4 r25 s47 ∧ (∀ r59 : Int, r59 = ans_X5_numberBetween y4 r25 s47 → (pre_X4_set 74 100 y1 r59 s47 ∧ (∀ s61 : St, s61 = eff_X4_set 74 100 y1 r59 s47 → L_X3_walkPattern_31 Q y1 y2 y3 n r25 (y5 + 1) s61))))))))))))))))))))) ∧ (r19 = 126 → (pre_X3_walkWater y1 y5 y4 σ ∧ (∀ (r66 : Int) (s64 : St), post_X3_walkWater y1 y5 y4 σ r66 s64 → (pre_X6_isReference r19 s64 ∧ (∀ r70 : Int, r70 = ans_X6_isReference r19 s64 → (inR r70 ∧ ((r70 = 0 → ((¬ r19 = 35 → L_X3_walkPattern_31 Q y1 y2 y3 n r66 (y5 + 1) s64) ∧ (r19 = 35 → (pre_X4_get 74 100 y1 s64 ∧ (∀ r77 : Int, r77 = ans_X4_get 74 100 y1 s64 → (inR r77 ∧ ((¬ r77 = (-1) → L_X3_walkPattern_31 Q y1 y2 y3 n r66 (y5 + 1) s64) ∧ (r77 = (-1) → (pre_X5_numberBetween y4 r66 s64 ∧ (∀ r83 : Int, r83 = ans_X5_numberBetween y4 r66 s64 → (pre_X4_set 74 100 y1 r83 s64 ∧ (∀ s85 : St, s85 = eff_X4_set 74 100 y1 r83 s64 → L_X3_walkPattern_31 Q y1 y2 y3 n r66 (y5 + 1) s85)))))))))))) ∧ (¬ (r70 = 0) → (pre_X3_announce y4 (r19 - 65) y1 s64 ∧ (∀ s88 : St, s88 = eff_X3_announce y4 (r19 - 65) y1 s64 → ((¬ r19 = 35 → L_X3_walkPattern_31 Q y1 y2 y3 n r66 (y5 + 1) s88) ∧ (r19 = 35 → (pre_X4_get 74 100 y1 s88 ∧ (∀ r94 : Int, r94 = ans_X4_get 74 100 y1 s88 → (inR r94 ∧ ((¬ r94 = (-1) → L_X3_walkPattern_31 Q y1 y2 y3 n r66 (y5 + 1) s88) ∧ (r94 = (-1) → (pre_X5_numberBetween y4 r66 s88 ∧ (∀ r100 : Int, r100 = ans_X5_numberBetween y4 r66 s88 → (pre_X4_set 74 100 y1 r100 s88 ∧ (∀ s102 : St, s102 = eff_X4_set 74 100 y1 r100 s88 → L_X3_walkPattern_31 Q y1 y2 y3 n r66 (y5 + 1) s102)))))))))))))))))))))))))))))
def V_X3_walkPattern (x1 : Int) (σ : St) (Q : St → Prop) : Prop := (pre_X4_get 62 100 x1 σ ∧ (∀ r4 : Int, r4 = ans_X4_get 62 100 x1 σ → (pre_X5_patternSize r4 σ ∧ (∀ r8 : Int, r8 = ans_X5_patternSize r4 σ → (pre_X4_get 64 100 x1 σ ∧ (∀ r12 : Int, r12 = ans_X4_get 64 100 x1 σ → (∃ n_, L_X3_walkPattern_31 Q x1 r4 r8 n_ r12 0 σ)))))))
def L_X3_update_16 (Q : St → Prop) (y2 : Int) : Nat → Int → Int → St → Prop
  | 0, _, _, _ => False
  | n + 1, y1, y3, σ => (inR y3 ∧ (inR y2 ∧ ((y2 ≤ y3 → Q σ) ∧ (¬ (y2 ≤ y3) → (inR y1 ∧ ((¬ y3 = y1 → (pre_X4_get 76 100 y3 σ ∧ (∀ r16 : Int, r16 = ans_X4_get 76 100 y3 σ → (inR r16 ∧ ((r16 = (-1) → L_X3_update_16 Q y2 n y1 (y3 + 1) σ) ∧ (¬ (r16 = (-1)) → (pre_X3_addNode y3 σ ∧ (∀ s20 : St, s20 = eff_X3_addNode y3 σ → (pre_X3_walkPattern ((s20 61 11) - 1) s20 ∧ (∀ s23 : St, post_X3_walkPattern ((s20 61 11) - 1) s20 s23 → L_X3_update_16 Q y2 n y1 (y3 + 1) s23)))))))))) ∧ (y3 = y1 → (pre_X3_takeTopLevel y3 σ ∧ (∀ r28 : Int, r28 = ans_X3_takeTopLevel y3 σ → ∀ s26 : St, s26 = eff_X3_takeTopLevel y3 σ → (pre_X4_get 76 100 y3 s26 ∧ (∀ r32 : Int, r32 = ans_X4_get 76 100 y3 s26 → (inR r32 ∧ ((r32 = (-1) → L_X3_update_16 Q y2 n r28 (y3 + 1) s26) ∧ (¬ (r32 = (-1)) → (pre_X3_addNode y3 s26 ∧ (∀ s36 : St, s36 = eff_X3_addNode y3 s26 → (pre_X3_walkPattern ((s36 61 11) - 1) s36 ∧ (∀ s39 : St, post_X3_walkPattern ((s36 61 11) - 1) s36 s39 → L_X3_update_16 Q y2 n r28 (y3 + 1) s39))))))))))))))))))
def V_X3_update (σ : St) (Q : St → Prop) : Prop := (pre_X3_clear σ ∧ (∀ s2 : St, s2 = eff_X3_clear σ → (pre_X5_textSize s2 ∧ (∀ r7 : Int, r7 = ans_X5_textSize s2 → (∃ n_, L_X3_update_16 Q r7 n_ 0 0 s2)))))
def V_X6_refresh (σ : St) (Q : St → Prop) : Prop := (inR (σ 0 7) ∧ (((σ 0 7) = 0 → Q σ) ∧ (¬ ((σ 0 7) = 0) → (pre_X2_update σ ∧ (∀ s4 : St, post_X2_update σ s4 → (pre_X3_update s4 ∧ (∀ s7 : St, post_X3_update s4 s7 → (∀ s9 : St, s9 = up s7 0 7 0 → Q s9))))))))
def V_X6_matchEnd (x1 x2 : Int) (σ : St) (Q : Int → St → Prop) : Prop := (pre_X6_isRule x1 σ ∧ (∀ r4 : Int, r4 = ans_X6_isRule x1 σ → (inR r4 ∧ ((r4 = 0 → (pre_X6_fail (-2) σ ∧ (∀ r10 : Int, r10 = ans_X6_fail (-2) σ → ∀ s8 : St, s8 = eff_X6_fail (-2) σ → Q r10 s8))) ∧ (¬ (r4 = 0) → (inR x2 ∧ ((x2 < 0 → (pre_X6_fail (-2) σ ∧ (∀ r16 : Int, r16 = ans_X6_fail (-2) σ → ∀ s14 : St, s14 = eff_X6_fail (-2) σ → Q r16 s14))) ∧ (¬ (x2 < 0) → (pre_X5_textSize σ ∧ (∀ r20 : Int, r20 = ans_X5_textSize σ → (inR r20 ∧ ((x2 ≤ r20 → (pre_X6_refresh σ ∧ (∀ s24 : St, post_X6_refresh σ s24 → (pre_X2_islandEnd x1 x2 s24 ∧ (∀ r29 : Int, r29 = ans_X2_islandEnd x1 x2 s24 → Q r29 s24))))) ∧ (¬ (x2 ≤ r20) → (pre_X6_fail (-2) σ ∧ (∀ r33 : Int, r33 = ans_X6_fail (-2) σ → ∀ s31 : St, s31 = eff_X6_fail (-2) σ → Q r33 s31)))))))))))))))
def V_X3_total (σ : St) (Q : Int → St → Prop) : Prop := Q (σ 61 11) σ
def V_X6_nodeCount (σ : St) (Q : Int → St → Prop) : Prop := (pre_X6_refresh σ ∧ (∀ s2 : St, post_X6_refresh σ s2 → (pre_X3_total s2 ∧ (∀ r7 : Int, r7 = ans_X3_total s2 → Q r7 s2))))
def V_X3_topLevelTotal (σ : St) (Q : Int → St → Prop) : Prop := Q (σ 61 12) σ
def V_X6_islandCount (σ : St) (Q : Int → St → Prop) : Prop := (pre_X6_refresh σ ∧ (∀ s2 : St, post_X6_refresh σ s2 → (pre_X3_topLevelTotal s2 ∧ (∀ r7 : Int, r7 = ans_X3_topLevelTotal s2 → Q r7 s2))))
def V_X3_has (x1 : Int) (σ : St) (Q : Int → St → Prop) : Prop := (inR x1 ∧ ((x1 < 0 → Q 0 σ) ∧ (¬ (x1 < 0) → (inR (σ 61 11) ∧ (((σ 61 11) ≤ x1 → Q 0 σ) ∧ (¬ ((σ 61 11) ≤ x1) → Q 1 σ))))))
def V_X3_ruleOf (x1 : Int) (σ : St) (Q : Int → St → Prop) : Prop := (pre_X4_get 62 100 x1 σ ∧ (∀ r4 : Int, r4 = ans_X4_get 62 100 x1 σ → Q r4 σ))
def V_X6_nodeRule (x1 : Int) (σ : St) (Q : Int → St → Prop) : Prop := (pre_X6_refresh σ ∧ (∀ s2 : St, post_X6_refresh σ s2 → (pre_X3_has x1 s2 ∧ (∀ r7 : Int, r7 = ans_X3_has x1 s2 → (inR r7 ∧ ((r7 = 0 → (pre_X6_fail (-2) s2 ∧ (∀ r13 : Int, r13 = ans_X6_fail (-2) s2 → ∀ s11 : St, s11 = eff_X6_fail (-2) s2 → Q r13 s11))) ∧ (¬ (r7 = 0) → (pre_X3_ruleOf x1 s2 ∧ (∀ r17 : Int, r17 = ans_X3_ruleOf x1 s2 → Q r17 s2)))))))))
def V_X3_startOf (x1 : Int) (σ : St) (Q : Int → St → Prop) : Prop := (pre_X4_get 64 100 x1 σ ∧ (∀ r4 : Int, r4 = ans_X4_get 64 100 x1 σ → Q r4 σ))
def V_X6_nodeStart (x1 : Int) (σ : St) (Q : Int → St → Prop) : Prop := (pre_X6_refresh σ ∧ (∀ s2 : St, post_X6_refresh σ s2 → (pre_X3_has x1 s2 ∧ (∀ r7 : Int, r7 = ans_X3_has x1 s2 → (inR r7 ∧ ((r7 = 0 → (pre_X6_fail (-2) s2 ∧ (∀ r13 : Int, r13 = ans_X6_fail (-2) s2 → ∀ s11 : St, s11 = eff_X6_fail (-2) s2 → Q r13 s11))) ∧ (¬ (r7 = 0) → (pre_X3_startOf x1 s2 ∧ (∀ r17 : Int, r17 = ans_X3_startOf x1 s2 → Q r17 s2)))))))))
def V_X3_endOf (x1 : Int) (σ : St) (Q : Int → St → Prop) : Prop := (pre_X4_get 66 100 x1 σ ∧ (∀ r4 : Int, r4 = ans_X4_get 66 100 x1 σ → Q r4 σ))
def V_X6_nodeEnd (x1 : Int) (σ : St) (Q : Int → St → Prop) : Prop := (pre_X6_refresh σ ∧ (∀ s2 : St, post_X6_refresh σ s2 → (pre_X3_has x1 s2 ∧ (∀ r7 : Int, r7 = ans_X3_has x1 s2 → (inR r7 ∧ ((r7 = 0 → (pre_X6_fail (-2) s2 ∧ (∀ r13 : Int, r13 = ans_X6_fail (-2) s2 → ∀ s11 : St, s11 = eff_X6_fail (-2) s2 → Q r13 s11))) ∧ (¬ (r7 = 0) → (pre_X3_endOf x1 s2 ∧ (∀ r17 : Int, r17 = ans_X3_endOf x1 s2 → Q r17 s2)))))))))
def V_X3_parentOf (x1 : Int) (σ : St) (Q : Int → St → Prop) : Prop := (pre_X4_get 68 100 x1 σ ∧ (∀ r4 : Int, r4 = ans_X4_get 68 100 x1 σ → Q r4 σ))
def V_X6_nodeParent (x1 : Int) (σ : St) (Q : Int → St → Prop) : Prop := (pre_X6_refresh σ ∧ (∀ s2 : St, post_X6_refresh σ s2 → (pre_X3_has x1 s2 ∧ (∀ r7 : Int, r7 = ans_X3_has x1 s2 → (inR r7 ∧ ((r7 = 0 → (pre_X6_fail (-2) s2 ∧ (∀ r13 : Int, r13 = ans_X6_fail (-2) s2 → ∀ s11 : St, s11 = eff_X6_fail (-2) s2 → Q r13 s11))) ∧ (¬ (r7 = 0) → (pre_X3_parentOf x1 s2 ∧ (∀ r17 : Int, r17 = ans_X3_parentOf x1 s2 → Q r17 s2)))))))))
def V_X3_depthOf (x1 : Int) (σ : St) (Q : Int → St → Prop) : Prop := (pre_X4_get 70 100 x1 σ ∧ (∀ r4 : Int, r4 = ans_X4_get 70 100 x1 σ → Q r4 σ))
def V_X6_nodeDepth (x1 : Int) (σ : St) (Q : Int → St → Prop) : Prop := (pre_X6_refresh σ ∧ (∀ s2 : St, post_X6_refresh σ s2 → (pre_X3_has x1 s2 ∧ (∀ r7 : Int, r7 = ans_X3_has x1 s2 → (inR r7 ∧ ((r7 = 0 → (pre_X6_fail (-2) s2 ∧ (∀ r13 : Int, r13 = ans_X6_fail (-2) s2 → ∀ s11 : St, s11 = eff_X6_fail (-2) s2 → Q r13 s11))) ∧ (¬ (r7 = 0) → (pre_X3_depthOf x1 s2 ∧ (∀ r17 : Int, r17 = ans_X3_depthOf x1 s2 → Q r17 s2)))))))))
def V_X3_waterOf (x1 : Int) (σ : St) (Q : Int → St → Prop) : Prop := (pre_X4_get 72 100 x1 σ ∧ (∀ r4 : Int, r4 = ans_X4_get 72 100 x1 σ → Q r4 σ))
def V_X6_nodeWater (x1 : Int) (σ : St) (Q : Int → St → Prop) : Prop := (pre_X6_refresh σ ∧ (∀ s2 : St, post_X6_refresh σ s2 → (pre_X3_has x1 s2 ∧ (∀ r7 : Int, r7 = ans_X3_has x1 s2 → (inR r7 ∧ ((r7 = 0 → (pre_X6_fail (-2) s2 ∧ (∀ r13 : Int, r13 = ans_X6_fail (-2) s2 → ∀ s11 : St, s11 = eff_X6_fail (-2) s2 → Q r13 s11))) ∧ (¬ (r7 = 0) → (pre_X3_waterOf x1 s2 ∧ (∀ r17 : Int, r17 = ans_X3_waterOf x1 s2 → Q r17 s2)))))))))
def V_X3_numberOf (x1 : Int) (σ : St) (Q : Int → St → Prop) : Prop := (pre_X4_get 74 100 x1 σ ∧ (∀ r4 : Int, r4 = ans_X4_get 74 100 x1 σ → Q r4 σ))
def V_X6_nodeNumber (x1 : Int) (σ : St) (Q : Int → St → Prop) : Prop := (pre_X6_refresh σ ∧ (∀ s2 : St, post_X6_refresh σ s2 → (pre_X3_has x1 s2 ∧ (∀ r7 : Int, r7 = ans_X3_has x1 s2 → (inR r7 ∧ ((r7 = 0 → (pre_X6_fail (-2) s2 ∧ (∀ r13 : Int, r13 = ans_X6_fail (-2) s2 → ∀ s11 : St, s11 = eff_X6_fail (-2) s2 → Q r13 s11))) ∧ (¬ (r7 = 0) → (pre_X3_numberOf x1 s2 ∧ (∀ r17 : Int, r17 = ans_X3_numberOf x1 s2 → Q r17 s2)))))))))
def L_X3_innermostAt_7 (Q : Int → St → Prop) (y1 : Int) : Nat → Int → St → Prop
  | 0, _, _ => False
  | n + 1, y2, σ => (inR y2 ∧ ((y2 < 0 → Q (-1) σ) ∧ (¬ (y2 < 0) → (pre_X4_get 64 100 y2 σ ∧ (∀ r6 : Int, r6 = ans_X4_get 64 100 y2 σ → (inR r6 ∧ (inR y1 ∧ ((y1 < r6 → L_X3_innermostAt_7 Q y1 n (y2 + (-1)) σ) ∧ (¬ (y1 < r6) → (pre_X4_get 66 100 y2 σ ∧ (∀ r13 : Int, r13 = ans_X4_get 66 100 y2 σ → (inR r13 ∧ ((r13 ≤ y1 → L_X3_innermostAt_7 Q y1 n (y2 + (-1)) σ) ∧ (¬ (r13 ≤ y1) → Q y2 σ))))))))))))))
def V_X3_innermostAt (x1 : Int) (σ : St) (Q : Int → St → Prop) : Prop := (∃ n_, L_X3_innermostAt_7 Q x1 n_ ((σ 61 11) - 1) σ)
def V_X6_nodeAt (x1 : Int) (σ : St) (Q : Int → St → Prop) : Prop := (pre_X6_isInText x1 σ ∧ (∀ r4 : Int, r4 = ans_X6_isInText x1 σ → (inR r4 ∧ ((¬ r4 = 0 → (pre_X6_refresh σ ∧ (∀ s8 : St, post_X6_refresh σ s8 → (pre_X3_innermostAt x1 s8 ∧ (∀ (r13 : Int) (s11 : St), post_X3_innermostAt x1 s8 r13 s11 → Q r13 s11))))) ∧ (r4 = 0 → (pre_X6_fail (-2) σ ∧ (∀ r17 : Int, r17 = ans_X6_fail (-2) σ → ∀ s15 : St, s15 = eff_X6_fail (-2) σ → Q r17 s15)))))))
def V_X3_topWater (σ : St) (Q : Int → St → Prop) : Prop := Q (σ 61 13) σ
def V_X6_waterLength (σ : St) (Q : Int → St → Prop) : Prop := (pre_X6_refresh σ ∧ (∀ s2 : St, post_X6_refresh σ s2 → (pre_X3_topWater s2 ∧ (∀ r7 : Int, r7 = ans_X3_topWater s2 → Q r7 s2))))
def V_X3_longestTopWater (σ : St) (Q : Int → St → Prop) : Prop := Q (σ 61 15) σ
def V_X6_longestWater (σ : St) (Q : Int → St → Prop) : Prop := (pre_X6_refresh σ ∧ (∀ s2 : St, post_X6_refresh σ s2 → (pre_X3_longestTopWater s2 ∧ (∀ r7 : Int, r7 = ans_X3_longestTopWater s2 → Q r7 s2))))
def L_X3_totalOf_4 (Q : Int → St → Prop) (y1 : Int) : Nat → Int → Int → St → Prop
  | 0, _, _, _ => False
  | n + 1, y2, y3, σ => (inR y3 ∧ (inR (σ 61 11) ∧ (((σ 61 11) ≤ y3 → Q y2 σ) ∧ (¬ ((σ 61 11) ≤ y3) → (pre_X4_get 62 100 y3 σ ∧ (∀ r7 : Int, r7 = ans_X4_get 62 100 y3 σ → (inR r7 ∧ (inR y1 ∧ ((¬ r7 = y1 → L_X3_totalOf_4 Q y1 n y2 (y3 + 1) σ) ∧ (r7 = y1 → L_X3_totalOf_4 Q y1 n (y2 + 1) (y3 + 1) σ))))))))))
def V_X3_totalOf (x1 : Int) (σ : St) (Q : Int → St → Prop) : Prop := (∃ n_, L_X3_totalOf_4 Q x1 n_ 0 0 σ)
def V_X6_countOf (x1 : Int) (σ : St) (Q : Int → St → Prop) : Prop := (pre_X6_isRule x1 σ ∧ (∀ r4 : Int, r4 = ans_X6_isRule x1 σ → (inR r4 ∧ ((¬ r4 = 0 → (pre_X6_refresh σ ∧ (∀ s8 : St, post_X6_refresh σ s8 → (pre_X3_totalOf x1 s8 ∧ (∀ (r13 : Int) (s11 : St), post_X3_totalOf x1 s8 r13 s11 → Q r13 s11))))) ∧ (r4 = 0 → (pre_X6_fail (-2) σ ∧ (∀ r17 : Int, r17 = ans_X6_fail (-2) σ → ∀ s15 : St, s15 = eff_X6_fail (-2) σ → Q r17 s15)))))))
def V_X1_savedCount (σ : St) (Q : Int → St → Prop) : Prop := Q (σ 10 2) σ
def V_X1_restore (σ : St) (Q : St → Prop) : Prop := (inR (σ 10 1) ∧ (((σ 10 1) ≤ 0 → (∀ s3 : St, s3 = up σ 10 1 3 → (pre_X1_slotAt (s3 10 1) s3 ∧ (∀ q7 : Nat, q7 = ans_X1_slotAt (s3 10 1) s3 → (isSt q7 ∧ (pre_X5_copyFrom 1 q7 s3 ∧ (∀ s9 : St, s9 = eff_X5_copyFrom 1 q7 s3 → (inR ((s9 10 2) - 1) ∧ (∀ r12 : Int, r12 = max ((s9 10 2) - 1) 0 → (∀ s13 : St, s13 = up s9 10 2 r12 → Q s13)))))))))) ∧ (¬ ((σ 10 1) ≤ 0) → (∀ s14 : St, s14 = up σ 10 1 ((σ 10 1) - 1) → (pre_X1_slotAt (s14 10 1) s14 ∧ (∀ q18 : Nat, q18 = ans_X1_slotAt (s14 10 1) s14 → (isSt q18 ∧ (pre_X5_copyFrom 1 q18 s14 ∧ (∀ s20 : St, s20 = eff_X5_copyFrom 1 q18 s14 → (inR ((s20 10 2) - 1) ∧ (∀ r23 : Int, r23 = max ((s20 10 2) - 1) 0 → (∀ s24 : St, s24 = up s20 10 2 r23 → Q s24))))))))))))
def V_X6_undo (σ : St) (Q : Int → St → Prop) : Prop := (pre_X1_savedCount σ ∧ (∀ r4 : Int, r4 = ans_X1_savedCount σ → (inR r4 ∧ ((¬ r4 = 0 → (pre_X1_restore σ ∧ (∀ s8 : St, s8 = eff_X1_restore σ → (∀ s10 : St, s10 = up s8 0 7 1 → (pre_X1_savedCount s10 ∧ (∀ r14 : Int, r14 = ans_X1_savedCount s10 → Q r14 s10)))))) ∧ (r4 = 0 → (pre_X6_fail (-3) σ ∧ (∀ r18 : Int, r18 = ans_X6_fail (-3) σ → ∀ s16 : St, s16 = eff_X6_fail (-3) σ → Q r18 s16)))))))
def V_X6_errorCount (x1 : Int) (σ : St) (Q : Int → St → Prop) : Prop := (inR x1 ∧ ((x1 < 0 → (pre_X6_fail (-2) σ ∧ (∀ r6 : Int, r6 = ans_X6_fail (-2) σ → ∀ s4 : St, s4 = eff_X6_fail (-2) σ → Q r6 s4))) ∧ (¬ (x1 < 0) → ((3 ≤ x1 → (pre_X6_fail (-2) σ ∧ (∀ r11 : Int, r11 = ans_X6_fail (-2) σ → ∀ s9 : St, s9 = eff_X6_fail (-2) σ → Q r11 s9))) ∧ (¬ (3 ≤ x1) → (pre_X4_get 50 3 x1 σ ∧ (∀ r15 : Int, r15 = ans_X4_get 50 3 x1 σ → Q r15 σ)))))))
def V_X6_mix (x0 x2 : Int) (σ : St) (Q : Int → St → Prop) : Prop := Q ((31 * x0) + x2) σ
def L_X4_mixInto_6 (k nn : Nat) (Q : Int → St → Prop) (y3 y4 : Int) : Nat → Int → Int → St → Prop
  | 0, _, _, _ => False
  | n + 1, y5, y7, σ => (inR y7 ∧ (inR y4 ∧ ((y4 ≤ y7 → Q y5 σ) ∧ (¬ (y4 ≤ y7) → (pre_X4_get k nn (y3 + y7) σ ∧ (∀ r7 : Int, r7 = ans_X4_get k nn (y3 + y7) σ → (inR r7 ∧ (pre_X6_mix y5 r7 σ ∧ (∀ r12 : Int, r12 = ans_X6_mix y5 r7 σ → L_X4_mixInto_6 k nn Q y3 y4 n r12 (y7 + 1) σ)))))))))
def V_X4_mixInto (k nn : Nat) (x1 x3 x4 : Int) (σ : St) (Q : Int → St → Prop) : Prop := (∃ n_, L_X4_mixInto_6 k nn Q x3 x4 n_ x1 0 σ)
def L_X5_mixInto_25 (Q : Int → St → Prop) : Nat → Int → Int → St → Prop
  | 0, _, _, _ => False
  | n + 1, y3, y5, σ => (inR y5 ∧ ((6 ≤ y5 → Q y3 σ) ∧ (¬ (6 ≤ y5) → (pre_X5_patternSize y5 σ ∧ (∀ r15 : Int, r15 = ans_X5_patternSize y5 σ → (inR r15 ∧ (pre_X6_mix y3 r15 σ ∧ (∀ r20 : Int, r20 = ans_X6_mix y3 r15 σ → (pre_X4_mixInto 6 48 r20 (y5 * 8) r15 σ ∧ (∀ (r24 : Int) (s22 : St), post_X4_mixInto 6 48 r20 (y5 * 8) r15 σ r24 s22 → (pre_X5_stopOf y5 s22 ∧ (∀ r28 : Int, r28 = ans_X5_stopOf y5 s22 → (inR r28 ∧ (pre_X6_mix r24 r28 s22 ∧ (∀ r33 : Int, r33 = ans_X6_mix r24 r28 s22 → L_X5_mixInto_25 Q n r33 (y5 + 1) s22)))))))))))))))
def V_X5_mixInto (x1 : Int) (σ : St) (Q : Int → St → Prop) : Prop := (inR (σ 1 4) ∧ (pre_X6_mix x1 (σ 1 4) σ ∧ (∀ r5 : Int, r5 = ans_X6_mix x1 (σ 1 4) σ → (pre_X4_mixInto 2 100 r5 0 (σ 1 4) σ ∧ (∀ (r9 : Int) (s7 : St), post_X4_mixInto 2 100 r5 0 (σ 1 4) σ r9 s7 → (∃ n_, L_X5_mixInto_25 Q n_ r9 0 s7))))))
def L_X3_mixInto_13 (Q : Int → St → Prop) : Nat → Int → Int → St → Prop
  | 0, _, _, _ => False
  | n + 1, y3, y5, σ => (inR y5 ∧ (inR (σ 61 11) ∧ (((σ 61 11) ≤ y5 → (inR (σ 61 13) ∧ (pre_X6_mix y3 (σ 61 13) σ ∧ (∀ r13 : Int, r13 = ans_X6_mix y3 (σ 61 13) σ → (inR (σ 61 15) ∧ (pre_X6_mix r13 (σ 61 15) σ ∧ (∀ r18 : Int, r18 = ans_X6_mix r13 (σ 61 15) σ → Q r18 σ))))))) ∧ (¬ ((σ 61 11) ≤ y5) → (pre_X4_get 62 100 y5 σ ∧ (∀ r22 : Int, r22 = ans_X4_get 62 100 y5 σ → (inR r22 ∧ (pre_X6_mix y3 r22 σ ∧ (∀ r27 : Int, r27 = ans_X6_mix y3 r22 σ → (pre_X4_get 64 100 y5 σ ∧ (∀ r31 : Int, r31 = ans_X4_get 64 100 y5 σ → (inR r31 ∧ (pre_X6_mix r27 r31 σ ∧ (∀ r36 : Int, r36 = ans_X6_mix r27 r31 σ → (pre_X4_get 66 100 y5 σ ∧ (∀ r40 : Int, r40 = ans_X4_get 66 100 y5 σ → (inR r40 ∧ (pre_X6_mix r36 r40 σ ∧ (∀ r45 : Int, r45 = ans_X6_mix r36 r40 σ → (pre_X4_get 68 100 y5 σ ∧ (∀ r49 : Int, r49 = ans_X4_get 68 100 y5 σ → (inR r49 ∧ (pre_X6_mix r45 r49 σ ∧ (∀ r54 : Int, r54 = ans_X6_mix r45 r49 σ → (pre_X4_get 72 100 y5 σ ∧ (∀ r58 : Int, r58 = ans_X4_get 72 100 y5 σ → (inR r58 ∧ (pre_X6_mix r54 r58 σ ∧ (∀ r63 : Int, r63 = ans_X6_mix r54 r58 σ → (pre_X4_get 74 100 y5 σ ∧ (∀ r67 : Int, r67 = ans_X4_get 74 100 y5 σ → (inR r67 ∧ (pre_X6_mix r63 r67 σ ∧ (∀ r72 : Int, r72 = ans_X6_mix r63 r67 σ → L_X3_mixInto_13 Q n r72 (y5 + 1) σ))))))))))))))))))))))))))))))))))
def V_X3_mixInto (x1 : Int) (σ : St) (Q : Int → St → Prop) : Prop := (inR (σ 61 11) ∧ (pre_X6_mix x1 (σ 61 11) σ ∧ (∀ r5 : Int, r5 = ans_X6_mix x1 (σ 61 11) σ → (∃ n_, L_X3_mixInto_13 Q n_ r5 0 σ))))
def V_X6_digest (σ : St) (Q : Int → St → Prop) : Prop := (pre_X6_refresh σ ∧ (∀ s2 : St, post_X6_refresh σ s2 → (pre_X4_mixInto 50 3 17305 0 3 s2 ∧ (∀ (r7 : Int) (s5 : St), post_X4_mixInto 50 3 17305 0 3 s2 r7 s5 → (inR (s5 0 6) ∧ (pre_X6_mix r7 (s5 0 6) s5 ∧ (∀ r12 : Int, r12 = ans_X6_mix r7 (s5 0 6) s5 → (pre_X1_savedCount s5 ∧ (∀ r16 : Int, r16 = ans_X1_savedCount s5 → (inR r16 ∧ (pre_X6_mix r12 r16 s5 ∧ (∀ r21 : Int, r21 = ans_X6_mix r12 r16 s5 → (pre_X5_mixInto r21 s5 ∧ (∀ (r25 : Int) (s23 : St), post_X5_mixInto r21 s5 r25 s23 → (pre_X3_mixInto r25 s23 ∧ (∀ (r29 : Int) (s27 : St), post_X3_mixInto r25 s23 r29 s27 → Q r29 s27))))))))))))))))
def V_X7_in (x0 x1 x2 : Int) (σ : St) (Q : Int → St → Prop) : Prop := (inR x0 ∧ (inR x1 ∧ ((x0 < x1 → Q 0 σ) ∧ (¬ (x0 < x1) → (inR x2 ∧ ((x2 < x0 → Q 0 σ) ∧ (¬ (x2 < x0) → Q 1 σ)))))))
def V_X7_fail (x1 : Int) (σ : St) (Q : Int → St → Prop) : Prop := (((0 : Int) ≤ ((-2) - x1) ∧ (((-2) - x1) : Int) < 3) ∧ (((0 : Int) ≤ ((-2) - x1) ∧ (((-2) - x1) : Int) < 3) ∧ (∀ s3 : St, s3 = up σ 84 ((-2) - x1) ((σ 84 ((-2) - x1)) + 1) → Q x1 s3)))
def L_X7_save_51 (Q : St → Prop) : Nat → Int → St → Prop
  | 0, _, _ => False
  | n + 1, y1, σ => (inR y1 ∧ ((161 ≤ y1 → (∀ s5 : St, s5 = up σ 80 2 ((σ 80 2) + 1) → Q s5)) ∧ (¬ (161 ≤ y1) → (((0 : Int) ≤ y1 ∧ (y1 : Int) < 161) ∧ (((0 : Int) ≤ ((161 * (σ 80 2)) + y1) ∧ (((161 * (σ 80 2)) + y1) : Int) < 644) ∧ (∀ s8 : St, s8 = up σ 82 ((161 * (σ 80 2)) + y1) (σ 81 y1) → L_X7_save_51 Q n (y1 + 1) s8))))))
def L_X7_save_10 (Q : St → Prop) : Nat → Int → St → Prop
  | 0, _, _ => False
  | n + 1, y1, σ => (inR y1 ∧ ((483 ≤ y1 → (∀ s11 : St, s11 = up σ 80 2 ((σ 80 2) - 1) → (∃ n_, L_X7_save_51 Q n_ 0 s11))) ∧ (¬ (483 ≤ y1) → (((0 : Int) ≤ (y1 + 161) ∧ ((y1 + 161) : Int) < 644) ∧ (((0 : Int) ≤ y1 ∧ (y1 : Int) < 644) ∧ (∀ s14 : St, s14 = up σ 82 y1 (σ 82 (y1 + 161)) → L_X7_save_10 Q n (y1 + 1) s14))))))
def V_X7_save (σ : St) (Q : St → Prop) : Prop := (inR (σ 80 2) ∧ ((¬ (σ 80 2) = 4 → (∃ n_, L_X7_save_51 Q n_ 0 σ)) ∧ ((σ 80 2) = 4 → (∃ n_, L_X7_save_10 Q n_ 0 σ))))
def V_X7_isByte (x0 : Int) (σ : St) (Q : Int → St → Prop) : Prop := (pre_X7_in x0 32 126 σ ∧ (∀ r4 : Int, r4 = ans_X7_in x0 32 126 σ → ((r4 = 0 ∨ r4 = 1) ∧ Q r4 σ)))
def V_X7_isPosition (x1 : Int) (σ : St) (Q : Int → St → Prop) : Prop := (pre_X7_in x1 0 ((σ 81 0) - 1) σ ∧ (∀ r4 : Int, r4 = ans_X7_in x1 0 ((σ 81 0) - 1) σ → ((r4 = 0 ∨ r4 = 1) ∧ Q r4 σ)))
def L_X7_insert_57 (Q : Int → St → Prop) (y1 y2 : Int) : Nat → Int → St → Prop
  | 0, _, _ => False
  | n + 1, y3, σ => (inR y3 ∧ (inR y1 ∧ ((y3 ≤ y1 → (((0 : Int) ≤ (1 + y1) ∧ ((1 + y1) : Int) < 161) ∧ (∀ s26 : St, s26 = up σ 81 (1 + y1) y2 → (∀ s27 : St, s27 = up s26 81 0 ((s26 81 0) + 1) → Q (s27 81 0) s27)))) ∧ (¬ (y3 ≤ y1) → (((0 : Int) ≤ ((1 + y3) - 1) ∧ (((1 + y3) - 1) : Int) < 161) ∧ (((0 : Int) ≤ (1 + y3) ∧ ((1 + y3) : Int) < 161) ∧ (∀ s30 : St, s30 = up σ 81 (1 + y3) (σ 81 ((1 + y3) - 1)) → L_X7_insert_57 Q y1 y2 n (y3 + (-1)) s30)))))))
def V_X7_insert (x1 x2 : Int) (σ : St) (Q : Int → St → Prop) : Prop := (pre_X7_in x1 0 (σ 81 0) σ ∧ (∀ r4 : Int, r4 = ans_X7_in x1 0 (σ 81 0) σ → (inR r4 ∧ ((r4 = 0 → (pre_X7_fail (-2) σ ∧ (∀ r10 : Int, r10 = ans_X7_fail (-2) σ → ∀ s8 : St, s8 = eff_X7_fail (-2) σ → Q r10 s8))) ∧ (¬ (r4 = 0) → (pre_X7_isByte x2 σ ∧ (∀ r14 : Int, r14 = ans_X7_isByte x2 σ → (inR r14 ∧ ((¬ r14 = 0 → (inR (σ 81 0) ∧ ((¬ (σ 81 0) = 100 → (pre_X7_save σ ∧ (∀ s20 : St, s20 = eff_X7_save σ → (∃ n_, L_X7_insert_57 Q x1 x2 n_ (s20 81 0) s20)))) ∧ ((σ 81 0) = 100 → (pre_X7_fail (-4) σ ∧ (∀ r34 : Int, r34 = ans_X7_fail (-4) σ → ∀ s32 : St, s32 = eff_X7_fail (-4) σ → Q r34 s32)))))) ∧ (r14 = 0 → (pre_X7_fail (-2) σ ∧ (∀ r38 : Int, r38 = ans_X7_fail (-2) σ → ∀ s36 : St, s36 = eff_X7_fail (-2) σ → Q r38 s36))))))))))))
def V_X7_replace (x1 x2 : Int) (σ : St) (Q : Int → St → Prop) : Prop := (pre_X7_isPosition x1 σ ∧ (∀ r4 : Int, r4 = ans_X7_isPosition x1 σ → (inR r4 ∧ ((r4 = 0 → (pre_X7_fail (-2) σ ∧ (∀ r10 : Int, r10 = ans_X7_fail (-2) σ → ∀ s8 : St, s8 = eff_X7_fail (-2) σ → Q r10 s8))) ∧ (¬ (r4 = 0) → (pre_X7_isByte x2 σ ∧ (∀ r14 : Int, r14 = ans_X7_isByte x2 σ → (inR r14 ∧ ((¬ r14 = 0 → (pre_X7_save σ ∧ (∀ s18 : St, s18 = eff_X7_save σ → (((0 : Int) ≤ (1 + x1) ∧ ((1 + x1) : Int) < 161) ∧ (((0 : Int) ≤ (1 + x1) ∧ ((1 + x1) : Int) < 161) ∧ (∀ s22 : St, s22 = up s18 81 (1 + x1) x2 → Q (s18 81 (1 + x1)) s22)))))) ∧ (r14 = 0 → (pre_X7_fail (-2) σ ∧ (∀ r26 : Int, r26 = ans_X7_fail (-2) σ → ∀ s24 : St, s24 = eff_X7_fail (-2) σ → Q r26 s24))))))))))))
def L_X7_delete_37 (Q : Int → St → Prop) (y2 : Int) : Nat → Int → St → Prop
  | 0, _, _ => False
  | n + 1, y3, σ => (inR (y3 + y2) ∧ (inR (σ 81 0) ∧ (((σ 81 0) ≤ (y3 + y2) → (∀ s23 : St, s23 = up σ 81 0 ((σ 81 0) - y2) → Q (s23 81 0) s23)) ∧ (¬ ((σ 81 0) ≤ (y3 + y2)) → (((0 : Int) ≤ ((1 + y3) + y2) ∧ (((1 + y3) + y2) : Int) < 161) ∧ (((0 : Int) ≤ (1 + y3) ∧ ((1 + y3) : Int) < 161) ∧ (∀ s26 : St, s26 = up σ 81 (1 + y3) (σ 81 ((1 + y3) + y2)) → L_X7_delete_37 Q y2 n (y3 + 1) s26)))))))
def V_X7_delete (x1 x2 : Int) (σ : St) (Q : Int → St → Prop) : Prop := (pre_X7_isPosition x1 σ ∧ (∀ r4 : Int, r4 = ans_X7_isPosition x1 σ → (inR r4 ∧ ((r4 = 0 → (pre_X7_fail (-2) σ ∧ (∀ r10 : Int, r10 = ans_X7_fail (-2) σ → ∀ s8 : St, s8 = eff_X7_fail (-2) σ → Q r10 s8))) ∧ (¬ (r4 = 0) → (pre_X7_in x2 1 ((σ 81 0) - x1) σ ∧ (∀ r14 : Int, r14 = ans_X7_in x2 1 ((σ 81 0) - x1) σ → (inR r14 ∧ ((¬ r14 = 0 → (pre_X7_save σ ∧ (∀ s18 : St, s18 = eff_X7_save σ → (∃ n_, L_X7_delete_37 Q x2 n_ x1 s18)))) ∧ (r14 = 0 → (pre_X7_fail (-2) σ ∧ (∀ r30 : Int, r30 = ans_X7_fail (-2) σ → ∀ s28 : St, s28 = eff_X7_fail (-2) σ → Q r30 s28))))))))))))
def V_X7_length (σ : St) (Q : Int → St → Prop) : Prop := Q (σ 81 0) σ
def V_X7_byteAt (x1 : Int) (σ : St) (Q : Int → St → Prop) : Prop := (pre_X7_isPosition x1 σ ∧ (∀ r4 : Int, r4 = ans_X7_isPosition x1 σ → (inR r4 ∧ ((r4 = 0 → (pre_X7_fail (-2) σ ∧ (∀ r10 : Int, r10 = ans_X7_fail (-2) σ → ∀ s8 : St, s8 = eff_X7_fail (-2) σ → Q r10 s8))) ∧ (¬ (r4 = 0) → (((0 : Int) ≤ (1 + x1) ∧ ((1 + x1) : Int) < 161) ∧ Q (σ 81 (1 + x1)) σ))))))
def V_X7_isRule (x0 : Int) (σ : St) (Q : Int → St → Prop) : Prop := (pre_X7_in x0 0 5 σ ∧ (∀ r4 : Int, r4 = ans_X7_in x0 0 5 σ → ((r4 = 0 ∨ r4 = 1) ∧ Q r4 σ)))
def V_X7_append (x1 : Int) (σ : St) (Q : Int → St → Prop) : Prop := (pre_X7_isByte x1 σ ∧ (∀ r4 : Int, r4 = ans_X7_isByte x1 σ → (inR r4 ∧ ((¬ r4 = 0 → (inR (σ 80 4) ∧ ((¬ (σ 80 4) = 8 → (((0 : Int) ≤ (σ 80 4) ∧ ((σ 80 4) : Int) < 8) ∧ (∀ s10 : St, s10 = up σ 83 (σ 80 4) x1 → (∀ s11 : St, s11 = up s10 80 4 ((s10 80 4) + 1) → Q (s11 80 4) s11)))) ∧ ((σ 80 4) = 8 → (pre_X7_fail (-4) σ ∧ (∀ r15 : Int, r15 = ans_X7_fail (-4) σ → ∀ s13 : St, s13 = eff_X7_fail (-4) σ → Q r15 s13)))))) ∧ (r4 = 0 → (pre_X7_fail (-2) σ ∧ (∀ r19 : Int, r19 = ans_X7_fail (-2) σ → ∀ s17 : St, s17 = eff_X7_fail (-2) σ → Q r19 s17)))))))
def V_X7_clearPattern (σ : St) (Q : Int → St → Prop) : Prop := (∀ s1 : St, s1 = up σ 80 4 0 → Q (σ 80 4) s1)
def V_X7_isReference (x0 : Int) (σ : St) (Q : Int → St → Prop) : Prop := (pre_X7_in x0 65 70 σ ∧ (∀ r4 : Int, r4 = ans_X7_in x0 65 70 σ → ((r4 = 0 ∨ r4 = 1) ∧ Q r4 σ)))
def L_X7_define_57 (Q : Int → St → Prop) (y1 : Int) : Nat → Int → St → Prop
  | 0, _, _ => False
  | n + 1, y2, σ => (inR y2 ∧ (inR (σ 80 4) ∧ (((σ 80 4) ≤ y2 → (((0 : Int) ≤ (101 + y1) ∧ ((101 + y1) : Int) < 161) ∧ (∀ s32 : St, s32 = up σ 81 (101 + y1) (σ 80 4) → Q (s32 80 4) s32))) ∧ (¬ ((σ 80 4) ≤ y2) → (((0 : Int) ≤ y2 ∧ (y2 : Int) < 8) ∧ (((0 : Int) ≤ ((107 + (8 * y1)) + y2) ∧ (((107 + (8 * y1)) + y2) : Int) < 161) ∧ (∀ s35 : St, s35 = up σ 81 ((107 + (8 * y1)) + y2) (σ 83 y2) → L_X7_define_57 Q y1 n (y2 + 1) s35)))))))
def V_X7_define (x1 : Int) (σ : St) (Q : Int → St → Prop) : Prop := (pre_X7_isRule x1 σ ∧ (∀ r4 : Int, r4 = ans_X7_isRule x1 σ → (inR r4 ∧ ((¬ r4 = 0 → (inR (σ 80 4) ∧ (((σ 80 4) = 0 → (pre_X7_fail (-3) σ ∧ (∀ r12 : Int, r12 = ans_X7_fail (-3) σ → ∀ s10 : St, s10 = eff_X7_fail (-3) σ → Q r12 s10))) ∧ (¬ ((σ 80 4) = 0) → (inR (σ 83 0) ∧ (((σ 83 0) = 126 → (pre_X7_fail (-3) σ ∧ (∀ r18 : Int, r18 = ans_X7_fail (-3) σ → ∀ s16 : St, s16 = eff_X7_fail (-3) σ → Q r18 s16))) ∧ (¬ ((σ 83 0) = 126) → (pre_X7_isReference (σ 83 0) σ ∧ (∀ r22 : Int, r22 = ans_X7_isReference (σ 83 0) σ → (inR r22 ∧ ((r22 = 0 → (pre_X7_save σ ∧ (∀ s26 : St, s26 = eff_X7_save σ → (∃ n_, L_X7_define_57 Q x1 n_ 0 s26)))) ∧ (¬ (r22 = 0) → (pre_X7_fail (-3) σ ∧ (∀ r39 : Int, r39 = ans_X7_fail (-3) σ → ∀ s37 : St, s37 = eff_X7_fail (-3) σ → Q r39 s37)))))))))))))) ∧ (r4 = 0 → (pre_X7_fail (-2) σ ∧ (∀ r43 : Int, r43 = ans_X7_fail (-2) σ → ∀ s41 : St, s41 = eff_X7_fail (-2) σ → Q r43 s41)))))))
def V_X7_undefine (x1 : Int) (σ : St) (Q : Int → St → Prop) : Prop := (pre_X7_isRule x1 σ ∧ (∀ r4 : Int, r4 = ans_X7_isRule x1 σ → (inR r4 ∧ ((¬ r4 = 0 → (pre_X7_save σ ∧ (∀ s8 : St, s8 = eff_X7_save σ → (((0 : Int) ≤ (101 + x1) ∧ ((101 + x1) : Int) < 161) ∧ (((0 : Int) ≤ (101 + x1) ∧ ((101 + x1) : Int) < 161) ∧ (∀ s12 : St, s12 = up s8 81 (101 + x1) 0 → Q (s8 81 (101 + x1)) s12)))))) ∧ (r4 = 0 → (pre_X7_fail (-2) σ ∧ (∀ r16 : Int, r16 = ans_X7_fail (-2) σ → ∀ s14 : St, s14 = eff_X7_fail (-2) σ → Q r16 s14)))))))
def V_X7_setStop (x1 x2 : Int) (σ : St) (Q : Int → St → Prop) : Prop := (pre_X7_isRule x1 σ ∧ (∀ r4 : Int, r4 = ans_X7_isRule x1 σ → (inR r4 ∧ ((r4 = 0 → (pre_X7_fail (-2) σ ∧ (∀ r10 : Int, r10 = ans_X7_fail (-2) σ → ∀ s8 : St, s8 = eff_X7_fail (-2) σ → Q r10 s8))) ∧ (¬ (r4 = 0) → (inR x2 ∧ ((x2 = (-1) → (pre_X7_save σ ∧ (∀ s14 : St, s14 = eff_X7_save σ → (((0 : Int) ≤ (155 + x1) ∧ ((155 + x1) : Int) < 161) ∧ (((0 : Int) ≤ (155 + x1) ∧ ((155 + x1) : Int) < 161) ∧ (∀ s18 : St, s18 = up s14 81 (155 + x1) x2 → Q (s14 81 (155 + x1)) s18)))))) ∧ (¬ (x2 = (-1)) → (pre_X7_isByte x2 σ ∧ (∀ r22 : Int, r22 = ans_X7_isByte x2 σ → (inR r22 ∧ ((¬ r22 = 0 → (pre_X7_save σ ∧ (∀ s26 : St, s26 = eff_X7_save σ → (((0 : Int) ≤ (155 + x1) ∧ ((155 + x1) : Int) < 161) ∧ (((0 : Int) ≤ (155 + x1) ∧ ((155 + x1) : Int) < 161) ∧ (∀ s30 : St, s30 = up s26 81 (155 + x1) x2 → Q (s26 81 (155 + x1)) s30)))))) ∧ (r22 = 0 → (pre_X7_fail (-2) σ ∧ (∀ r34 : Int, r34 = ans_X7_fail (-2) σ → ∀ s32 : St, s32 = eff_X7_fail (-2) σ → Q r34 s32)))))))))))))))
def V_X7_elementOf (x1 x2 : Int) (σ : St) (Q : Int → St → Prop) : Prop := (((0 : Int) ≤ ((107 + (8 * x1)) + x2) ∧ (((107 + (8 * x1)) + x2) : Int) < 161) ∧ Q (σ 81 ((107 + (8 * x1)) + x2)) σ)
def V_X7_element (x1 x2 : Int) (σ : St) (Q : Int → St → Prop) : Prop := (pre_X7_isRule x1 σ ∧ (∀ r4 : Int, r4 = ans_X7_isRule x1 σ → (inR r4 ∧ ((r4 = 0 → (pre_X7_fail (-2) σ ∧ (∀ r10 : Int, r10 = ans_X7_fail (-2) σ → ∀ s8 : St, s8 = eff_X7_fail (-2) σ → Q r10 s8))) ∧ (¬ (r4 = 0) → (inR x2 ∧ ((0 ≤ x2 → (((0 : Int) ≤ (101 + x1) ∧ ((101 + x1) : Int) < 161) ∧ (inR (σ 81 (101 + x1)) ∧ (((σ 81 (101 + x1)) ≤ x2 → Q (-1) σ) ∧ (¬ ((σ 81 (101 + x1)) ≤ x2) → (pre_X7_elementOf x1 x2 σ ∧ (∀ r19 : Int, r19 = ans_X7_elementOf x1 x2 σ → Q r19 σ))))))) ∧ (¬ (0 ≤ x2) → (pre_X7_fail (-2) σ ∧ (∀ r23 : Int, r23 = ans_X7_fail (-2) σ → ∀ s21 : St, s21 = eff_X7_fail (-2) σ → Q r23 s21))))))))))
def V_X7_cell (x0 x1 x2 : Int) (σ : St) (Q : Int → St → Prop) : Prop := Q ((101 * ((9 * x0) + x1)) + x2) σ
def V_X7_isOf (x1 x2 x3 : Int) (σ : St) (Q : Int → St → Prop) : Prop := (inR x1 ∧ (inR (σ 81 0) ∧ (((σ 81 0) ≤ x1 → Q 0 σ) ∧ (¬ ((σ 81 0) ≤ x1) → (((0 : Int) ≤ (1 + x1) ∧ ((1 + x1) : Int) < 161) ∧ (pre_X7_in (σ 81 (1 + x1)) x2 x3 σ ∧ (∀ r8 : Int, r8 = ans_X7_in (σ 81 (1 + x1)) x2 x3 σ → (inR r8 ∧ ((r8 = 0 → Q 0 σ) ∧ (¬ (r8 = 0) → Q 1 σ))))))))))
def L_X7_runEnd_3 (Q : Int → St → Prop) (y2 y3 : Int) : Nat → Int → St → Prop
  | 0, _, _ => False
  | n + 1, y4, σ => (pre_X7_isOf y4 y2 y3 σ ∧ (∀ r4 : Int, r4 = ans_X7_isOf y4 y2 y3 σ → (inR r4 ∧ ((r4 = 0 → Q y4 σ) ∧ (¬ (r4 = 0) → L_X7_runEnd_3 Q y2 y3 n (y4 + 1) σ)))))
def V_X7_runEnd (x1 x2 x3 : Int) (σ : St) (Q : Int → St → Prop) : Prop := (∃ n_, L_X7_runEnd_3 Q x2 x3 n_ x1 σ)
def V_X7_elementEnd (x1 x2 : Int) (σ : St) (Q : Int → St → Prop) : Prop := (pre_X7_isReference x1 σ ∧ (∀ r4 : Int, r4 = ans_X7_isReference x1 σ → (inR r4 ∧ ((r4 = 0 → (inR x1 ∧ ((x1 = 35 → ((¬ x1 = 35 → (pre_X7_runEnd x2 97 122 σ ∧ (∀ r13 : Int, r13 = ans_X7_runEnd x2 97 122 σ → (inR r13 ∧ (inR x2 ∧ ((r13 ≤ x2 → Q (-1) σ) ∧ (¬ (r13 ≤ x2) → Q r13 σ))))))) ∧ (x1 = 35 → (pre_X7_runEnd x2 48 57 σ ∧ (∀ r20 : Int, r20 = ans_X7_runEnd x2 48 57 σ → (inR r20 ∧ (inR x2 ∧ ((r20 ≤ x2 → Q (-1) σ) ∧ (¬ (r20 ≤ x2) → Q r20 σ))))))))) ∧ (¬ (x1 = 35) → ((¬ x1 = 64 → (pre_X7_isOf x2 x1 x1 σ ∧ (∀ r28 : Int, r28 = ans_X7_isOf x2 x1 x1 σ → (inR r28 ∧ ((r28 = 0 → Q (-1) σ) ∧ (¬ (r28 = 0) → Q (x2 + 1) σ)))))) ∧ (x1 = 64 → ((¬ x1 = 35 → (pre_X7_runEnd x2 97 122 σ ∧ (∀ r35 : Int, r35 = ans_X7_runEnd x2 97 122 σ → (inR r35 ∧ (inR x2 ∧ ((r35 ≤ x2 → Q (-1) σ) ∧ (¬ (r35 ≤ x2) → Q r35 σ))))))) ∧ (x1 = 35 → (pre_X7_runEnd x2 48 57 σ ∧ (∀ r42 : Int, r42 = ans_X7_runEnd x2 48 57 σ → (inR r42 ∧ (inR x2 ∧ ((r42 ≤ x2 → Q (-1) σ) ∧ (¬ (r42 ≤ x2) → Q r42 σ)))))))))))))) ∧ (¬ (r4 = 0) → (pre_X7_cell (x1 - 65) 0 x2 σ ∧ (∀ r49 : Int, r49 = ans_X7_cell (x1 - 65) 0 x2 σ → (((0 : Int) ≤ r49 ∧ (r49 : Int) < 5454) ∧ Q (σ 85 r49) σ))))))))
def L_X7_islandAt_2 (Q : Int → St → Prop) (y1 : Int) : Nat → Int → St → Prop
  | 0, _, _ => False
  | n + 1, y2, σ => (inR y2 ∧ ((6 ≤ y2 → Q (-1) σ) ∧ (¬ (6 ≤ y2) → (pre_X7_cell y2 0 y1 σ ∧ (∀ r6 : Int, r6 = ans_X7_cell y2 0 y1 σ → (((0 : Int) ≤ r6 ∧ (r6 : Int) < 5454) ∧ (inR (σ 85 r6) ∧ (((σ 85 r6) = (-1) → L_X7_islandAt_2 Q y1 n (y2 + 1) σ) ∧ (¬ ((σ 85 r6) = (-1)) → Q y2 σ)))))))))
def V_X7_islandAt (x1 : Int) (σ : St) (Q : Int → St → Prop) : Prop := (∃ n_, L_X7_islandAt_2 Q x1 n_ 0 σ)
def V_X7_waterEnd (x1 x2 x3 : Int) (σ : St) (Q : Int → St → Prop) : Prop := (pre_X7_cell x1 (x2 + 1) x3 σ ∧ (∀ r4 : Int, r4 = ans_X7_cell x1 (x2 + 1) x3 σ → (((0 : Int) ≤ r4 ∧ (r4 : Int) < 5454) ∧ (inR (σ 85 r4) ∧ (((σ 85 r4) = (-1) → (pre_X7_islandAt x3 σ ∧ (∀ r11 : Int, r11 = ans_X7_islandAt x3 σ → (inR r11 ∧ ((r11 = (-1) → (inR x3 ∧ (inR (σ 81 0) ∧ ((x3 = (σ 81 0) → Q (-1) σ) ∧ (¬ (x3 = (σ 81 0)) → (((0 : Int) ≤ (1 + x3) ∧ ((1 + x3) : Int) < 161) ∧ (((0 : Int) ≤ (155 + x1) ∧ ((155 + x1) : Int) < 161) ∧ (inR (σ 81 (1 + x3)) ∧ (inR (σ 81 (155 + x1)) ∧ ((¬ (σ 81 (1 + x3)) = (σ 81 (155 + x1)) → (pre_X7_cell x1 x2 (x3 + 1) σ ∧ (∀ r25 : Int, r25 = ans_X7_cell x1 x2 (x3 + 1) σ → (((0 : Int) ≤ r25 ∧ (r25 : Int) < 5454) ∧ Q (σ 85 r25) σ)))) ∧ ((σ 81 (1 + x3)) = (σ 81 (155 + x1)) → Q (-1) σ))))))))))) ∧ (¬ (r11 = (-1)) → (pre_X7_cell r11 0 x3 σ ∧ (∀ r30 : Int, r30 = ans_X7_cell r11 0 x3 σ → (((0 : Int) ≤ r30 ∧ (r30 : Int) < 5454) ∧ (pre_X7_cell x1 x2 (σ 85 r30) σ ∧ (∀ r35 : Int, r35 = ans_X7_cell x1 x2 (σ 85 r30) σ → (((0 : Int) ≤ r35 ∧ (r35 : Int) < 5454) ∧ Q (σ 85 r35) σ)))))))))))) ∧ (¬ ((σ 85 r4) = (-1)) → Q (σ 85 r4) σ))))))
def V_X7_suffixEnd (x1 x2 x3 : Int) (σ : St) (Q : Int → St → Prop) : Prop := (((0 : Int) ≤ (101 + x1) ∧ ((101 + x1) : Int) < 161) ∧ (inR x2 ∧ (inR (σ 81 (101 + x1)) ∧ ((¬ x2 = (σ 81 (101 + x1)) → (pre_X7_elementOf x1 x2 σ ∧ (∀ r8 : Int, r8 = ans_X7_elementOf x1 x2 σ → (inR r8 ∧ ((¬ r8 = 126 → (pre_X7_elementEnd r8 x3 σ ∧ (∀ r14 : Int, r14 = ans_X7_elementEnd r8 x3 σ → (inR r14 ∧ ((¬ r14 = (-1) → (pre_X7_cell x1 (x2 + 1) r14 σ ∧ (∀ r20 : Int, r20 = ans_X7_cell x1 (x2 + 1) r14 σ → (((0 : Int) ≤ r20 ∧ (r20 : Int) < 5454) ∧ Q (σ 85 r20) σ)))) ∧ (r14 = (-1) → Q (-1) σ)))))) ∧ (r8 = 126 → (pre_X7_waterEnd x1 x2 x3 σ ∧ (∀ r25 : Int, r25 = ans_X7_waterEnd x1 x2 x3 σ → Q r25 σ)))))))) ∧ (x2 = (σ 81 (101 + x1)) → ((¬ x2 = 0 → Q x3 σ) ∧ (x2 = 0 → Q (-1) σ)))))))
def L_X7_findEnds_13 (Q : St → Prop) (K : St → Prop) (y1 : Int) : Nat → Int → St → Prop
  | 0, _, _ => False
  | n + 1, y2, σ => (inR y2 ∧ ((6 ≤ y2 → K σ) ∧ (¬ (6 ≤ y2) → (pre_X7_cell y2 0 y1 σ ∧ (∀ r8 : Int, r8 = ans_X7_cell y2 0 y1 σ → (pre_X7_suffixEnd y2 0 y1 σ ∧ (∀ r12 : Int, r12 = ans_X7_suffixEnd y2 0 y1 σ → (((0 : Int) ≤ r8 ∧ (r8 : Int) < 5454) ∧ (∀ s14 : St, s14 = up σ 85 r8 r12 → L_X7_findEnds_13 Q K y1 n (y2 + 1) s14)))))))))
def L_X7_findEnds_61 (Q : St → Prop) (K : St → Prop) (y1 y2 : Int) : Nat → Int → St → Prop
  | 0, _, _ => False
  | n + 1, y3, σ => (inR y3 ∧ ((y3 ≤ 0 → K σ) ∧ (¬ (y3 ≤ 0) → (pre_X7_cell y2 y3 y1 σ ∧ (∀ r24 : Int, r24 = ans_X7_cell y2 y3 y1 σ → (pre_X7_suffixEnd y2 y3 y1 σ ∧ (∀ r28 : Int, r28 = ans_X7_suffixEnd y2 y3 y1 σ → (((0 : Int) ≤ r24 ∧ (r24 : Int) < 5454) ∧ (∀ s30 : St, s30 = up σ 85 r24 r28 → L_X7_findEnds_61 Q K y1 y2 n (y3 + (-1)) s30)))))))))
def L_X7_findEnds_45 (Q : St → Prop) (K : St → Prop) (y1 : Int) : Nat → Int → St → Prop
  | 0, _, _ => False
  | n + 1, y2, σ => (inR y2 ∧ ((6 ≤ y2 → K σ) ∧ (¬ (6 ≤ y2) → (((0 : Int) ≤ (101 + y2) ∧ ((101 + y2) : Int) < 161) ∧ (∃ n_, L_X7_findEnds_61 Q (fun  s31 => L_X7_findEnds_45 Q K y1 n (y2 + 1) s31) y1 y2 n_ (σ 81 (101 + y2)) σ)))))
def L_X7_findEnds_7 (Q : St → Prop) : Nat → Int → St → Prop
  | 0, _, _ => False
  | n + 1, y1, σ => (inR y1 ∧ ((y1 < 0 → Q σ) ∧ (¬ (y1 < 0) → (∃ n_, L_X7_findEnds_13 Q (fun  s15 => (∃ n_, L_X7_findEnds_45 Q (fun  s32 => L_X7_findEnds_7 Q n (y1 + (-1)) s32) y1 n_ 0 s15)) y1 n_ 0 σ))))
def V_X7_findEnds (σ : St) (Q : St → Prop) : Prop := (∃ n_, L_X7_findEnds_7 Q n_ (σ 81 0) σ)
def V_X7_matchEnd (x1 x2 : Int) (σ : St) (Q : Int → St → Prop) : Prop := (pre_X7_isRule x1 σ ∧ (∀ r4 : Int, r4 = ans_X7_isRule x1 σ → (inR r4 ∧ ((r4 = 0 → (pre_X7_fail (-2) σ ∧ (∀ r10 : Int, r10 = ans_X7_fail (-2) σ → ∀ s8 : St, s8 = eff_X7_fail (-2) σ → Q r10 s8))) ∧ (¬ (r4 = 0) → (pre_X7_in x2 0 (σ 81 0) σ ∧ (∀ r14 : Int, r14 = ans_X7_in x2 0 (σ 81 0) σ → (inR r14 ∧ ((¬ r14 = 0 → (pre_X7_findEnds σ ∧ (∀ s18 : St, post_X7_findEnds σ s18 → (pre_X7_cell x1 0 x2 s18 ∧ (∀ r23 : Int, r23 = ans_X7_cell x1 0 x2 s18 → (((0 : Int) ≤ r23 ∧ (r23 : Int) < 5454) ∧ Q (s18 85 r23) s18)))))) ∧ (r14 = 0 → (pre_X7_fail (-2) σ ∧ (∀ r28 : Int, r28 = ans_X7_fail (-2) σ → ∀ s26 : St, s26 = eff_X7_fail (-2) σ → Q r28 s26))))))))))))
def V_X7_addNode (x1 x2 x3 : Int) (σ : St) (Q : St → Prop) : Prop := (((0 : Int) ≤ (σ 80 12) ∧ ((σ 80 12) : Int) < 100) ∧ (∀ s2 : St, s2 = up σ 86 (σ 80 12) x1 → (((0 : Int) ≤ (s2 80 12) ∧ ((s2 80 12) : Int) < 100) ∧ (∀ s4 : St, s4 = up s2 87 (s2 80 12) x2 → (((0 : Int) ≤ (s4 80 12) ∧ ((s4 80 12) : Int) < 100) ∧ (∀ s6 : St, s6 = up s4 88 (s4 80 12) x3 → (((0 : Int) ≤ (s6 80 12) ∧ ((s6 80 12) : Int) < 100) ∧ (∀ s8 : St, s8 = up s6 89 (s6 80 12) 0 → (((0 : Int) ≤ (s8 80 12) ∧ ((s8 80 12) : Int) < 100) ∧ (∀ s10 : St, s10 = up s8 90 (s8 80 12) (-1) → (∀ s11 : St, s11 = up s10 80 12 ((s10 80 12) + 1) → Q s11)))))))))))
def V_X7_endOf (x1 : Int) (σ : St) (Q : Int → St → Prop) : Prop := (((0 : Int) ≤ x1 ∧ (x1 : Int) < 100) ∧ (((0 : Int) ≤ x1 ∧ (x1 : Int) < 100) ∧ (pre_X7_cell (σ 86 x1) 0 (σ 87 x1) σ ∧ (∀ r6 : Int, r6 = ans_X7_cell (σ 86 x1) 0 (σ 87 x1) σ → (((0 : Int) ≤ r6 ∧ (r6 : Int) < 5454) ∧ Q (σ 85 r6) σ)))))
def L_X7_numberAt_4 (Q : Int → St → Prop) : Nat → Int → Int → St → Prop
  | 0, _, _, _ => False
  | n + 1, y2, y3, σ => (pre_X7_isOf y3 48 57 σ ∧ (∀ r4 : Int, r4 = ans_X7_isOf y3 48 57 σ → (inR r4 ∧ ((r4 = 0 → Q y2 σ) ∧ (¬ (r4 = 0) → (((0 : Int) ≤ (1 + y3) ∧ ((1 + y3) : Int) < 161) ∧ (((0 : Int) ≤ (((10 * y2) + (σ 81 (1 + y3))) - 48) ∧ (((10 * y2) + (σ 81 (1 + y3))) - 48) ≤ 2147483647) ∧ L_X7_numberAt_4 Q n ((((10 * y2) + (σ 81 (1 + y3))) - 48) % 1000000) (y3 + 1) σ)))))))
def V_X7_numberAt (x1 : Int) (σ : St) (Q : Int → St → Prop) : Prop := (∃ n_, L_X7_numberAt_4 Q n_ 0 x1 σ)
def L_X7_followWater_3 (Q : Int → St → Prop) (y1 y2 : Int) : Nat → Int → St → Prop
  | 0, _, _ => False
  | n + 1, y4, σ => (((0 : Int) ≤ y1 ∧ (y1 : Int) < 100) ∧ (pre_X7_cell (σ 86 y1) (y2 + 1) y4 σ ∧ (∀ r5 : Int, r5 = ans_X7_cell (σ 86 y1) (y2 + 1) y4 σ → (((0 : Int) ≤ r5 ∧ (r5 : Int) < 5454) ∧ (inR (σ 85 r5) ∧ ((¬ (σ 85 r5) = (-1) → Q y4 σ) ∧ ((σ 85 r5) = (-1) → (pre_X7_islandAt y4 σ ∧ (∀ r12 : Int, r12 = ans_X7_islandAt y4 σ → (inR r12 ∧ ((r12 = (-1) → (((0 : Int) ≤ y1 ∧ (y1 : Int) < 100) ∧ (((0 : Int) ≤ y1 ∧ (y1 : Int) < 100) ∧ (∀ s17 : St, s17 = up σ 89 y1 ((σ 89 y1) + 1) → L_X7_followWater_3 Q y1 y2 n (y4 + 1) s17)))) ∧ (¬ (r12 = (-1)) → (pre_X7_addNode r12 y4 y1 σ ∧ (∀ s19 : St, post_X7_addNode r12 y4 y1 σ s19 → (pre_X7_cell r12 0 y4 s19 ∧ (∀ r24 : Int, r24 = ans_X7_cell r12 0 y4 s19 → (((0 : Int) ≤ r24 ∧ (r24 : Int) < 5454) ∧ L_X7_followWater_3 Q y1 y2 n (s19 85 r24) s19)))))))))))))))))
def V_X7_followWater (x1 x2 x3 : Int) (σ : St) (Q : Int → St → Prop) : Prop := (∃ n_, L_X7_followWater_3 Q x1 x2 n_ x3 σ)
def L_X7_follow_17 (Q : St → Prop) (y1 y2 : Int) : Nat → Int → Int → St → Prop
  | 0, _, _, _ => False
  | n + 1, y3, y4, σ => (((0 : Int) ≤ (101 + y2) ∧ ((101 + y2) : Int) < 161) ∧ (inR y4 ∧ (inR (σ 81 (101 + y2)) ∧ (((σ 81 (101 + y2)) ≤ y4 → Q σ) ∧ (¬ ((σ 81 (101 + y2)) ≤ y4) → (pre_X7_elementOf y2 y4 σ ∧ (∀ r10 : Int, r10 = ans_X7_elementOf y2 y4 σ → (inR r10 ∧ ((¬ r10 = 126 → (pre_X7_isReference r10 σ ∧ (∀ r16 : Int, r16 = ans_X7_isReference r10 σ → (inR r16 ∧ ((r16 = 0 → ((¬ r10 = 35 → (pre_X7_elementEnd r10 y3 σ ∧ (∀ r23 : Int, r23 = ans_X7_elementEnd r10 y3 σ → L_X7_follow_17 Q y1 y2 n r23 (y4 + 1) σ))) ∧ (r10 = 35 → (((0 : Int) ≤ y1 ∧ (y1 : Int) < 100) ∧ (inR (σ 90 y1) ∧ ((¬ (σ 90 y1) = (-1) → (pre_X7_elementEnd r10 y3 σ ∧ (∀ r30 : Int, r30 = ans_X7_elementEnd r10 y3 σ → L_X7_follow_17 Q y1 y2 n r30 (y4 + 1) σ))) ∧ ((σ 90 y1) = (-1) → (pre_X7_numberAt y3 σ ∧ (∀ (r34 : Int) (s32 : St), post_X7_numberAt y3 σ r34 s32 → (((0 : Int) ≤ y1 ∧ (y1 : Int) < 100) ∧ (∀ s36 : St, s36 = up s32 90 y1 r34 → (pre_X7_elementEnd r10 y3 s36 ∧ (∀ r40 : Int, r40 = ans_X7_elementEnd r10 y3 s36 → L_X7_follow_17 Q y1 y2 n r40 (y4 + 1) s36))))))))))))) ∧ (¬ (r16 = 0) → (pre_X7_addNode (r10 - 65) y3 y1 σ ∧ (∀ s42 : St, post_X7_addNode (r10 - 65) y3 y1 σ s42 → ((¬ r10 = 35 → (pre_X7_elementEnd r10 y3 s42 ∧ (∀ r48 : Int, r48 = ans_X7_elementEnd r10 y3 s42 → L_X7_follow_17 Q y1 y2 n r48 (y4 + 1) s42))) ∧ (r10 = 35 → (((0 : Int) ≤ y1 ∧ (y1 : Int) < 100) ∧ (inR (s42 90 y1) ∧ ((¬ (s42 90 y1) = (-1) → (pre_X7_elementEnd r10 y3 s42 ∧ (∀ r55 : Int, r55 = ans_X7_elementEnd r10 y3 s42 → L_X7_follow_17 Q y1 y2 n r55 (y4 + 1) s42))) ∧ ((s42 90 y1) = (-1) → (pre_X7_numberAt y3 s42 ∧ (∀ (r59 : Int) (s57 : St), post_X7_numberAt y3 s42 r59 s57 → (((0 : Int) ≤ y1 ∧ (y1 : Int) < 100) ∧ (∀ s61 : St, s61 = up s57 90 y1 r59 → (pre_X7_elementEnd r10 y3 s61 ∧ (∀ r65 : Int, r65 = ans_X7_elementEnd r10 y3 s61 → L_X7_follow_17 Q y1 y2 n r65 (y4 + 1) s61)))))))))))))))))))) ∧ (r10 = 126 → (pre_X7_followWater y1 y4 y3 σ ∧ (∀ (r69 : Int) (s67 : St), post_X7_followWater y1 y4 y3 σ r69 s67 → L_X7_follow_17 Q y1 y2 n r69 (y4 + 1) s67))))))))))))
def V_X7_follow (x1 : Int) (σ : St) (Q : St → Prop) : Prop := (((0 : Int) ≤ x1 ∧ (x1 : Int) < 100) ∧ (((0 : Int) ≤ x1 ∧ (x1 : Int) < 100) ∧ (∃ n_, L_X7_follow_17 Q x1 (σ 86 x1) n_ (σ 87 x1) 0 σ)))
def L_X7_parse_117 (Q : St → Prop) : Nat → Int → St → Prop
  | 0, _, _ => False
  | n + 1, y3, σ => (inR y3 ∧ (inR (σ 80 12) ∧ (((σ 80 12) ≤ y3 → Q σ) ∧ (¬ ((σ 80 12) ≤ y3) → (pre_X7_follow y3 σ ∧ (∀ s15 : St, post_X7_follow y3 σ s15 → L_X7_parse_117 Q n (y3 + 1) s15))))))
def L_X7_parse_23 (Q : St → Prop) : Nat → Int → Int → St → Prop
  | 0, _, _, _ => False
  | n + 1, y1, y2, σ => (inR y2 ∧ (inR (σ 81 0) ∧ (((σ 81 0) ≤ y2 → (∀ s10 : St, s10 = up σ 80 13 (σ 80 12) → (∃ n_, L_X7_parse_117 Q n_ 0 s10))) ∧ (¬ ((σ 81 0) ≤ y2) → (pre_X7_islandAt y2 σ ∧ (∀ r20 : Int, r20 = ans_X7_islandAt y2 σ → (inR r20 ∧ ((r20 = (-1) → (∀ s23 : St, s23 = up σ 80 14 ((σ 80 14) + 1) → (inR (y1 + 1) ∧ (inR (s23 80 15) ∧ (((y1 + 1) ≤ (s23 80 15) → (∀ s27 : St, s27 = up s23 80 15 (s23 80 15) → L_X7_parse_23 Q n (y1 + 1) (y2 + 1) s27)) ∧ (¬ ((y1 + 1) ≤ (s23 80 15)) → (∀ s28 : St, s28 = up s23 80 15 (y1 + 1) → L_X7_parse_23 Q n (y1 + 1) (y2 + 1) s28))))))) ∧ (¬ (r20 = (-1)) → (pre_X7_addNode r20 y2 (-1) σ ∧ (∀ s30 : St, post_X7_addNode r20 y2 (-1) σ s30 → (pre_X7_cell r20 0 y2 s30 ∧ (∀ r35 : Int, r35 = ans_X7_cell r20 0 y2 s30 → (((0 : Int) ≤ r35 ∧ (r35 : Int) < 5454) ∧ L_X7_parse_23 Q n 0 (s30 85 r35) s30))))))))))))))
def V_X7_parse (σ : St) (Q : St → Prop) : Prop := (pre_X7_findEnds σ ∧ (∀ s2 : St, post_X7_findEnds σ s2 → (∀ s4 : St, s4 = up s2 80 12 0 → (∀ s5 : St, s5 = up s4 80 14 0 → (∀ s6 : St, s6 = up s5 80 15 0 → (∃ n_, L_X7_parse_23 Q n_ 0 0 s6))))))
def L_X7_numberOf_4 (Q : Int → St → Prop) (y1 : Int) : Nat → Int → Int → St → Prop
  | 0, _, _, _ => False
  | n + 1, y2, y3, σ => (inR y3 ∧ (inR (σ 80 12) ∧ (((σ 80 12) ≤ y3 → Q y2 σ) ∧ (¬ ((σ 80 12) ≤ y3) → (((0 : Int) ≤ y3 ∧ (y3 : Int) < 100) ∧ (((0 : Int) ≤ y1 ∧ (y1 : Int) < 100) ∧ (inR (σ 87 y3) ∧ (inR (σ 87 y1) ∧ (((σ 87 y1) ≤ (σ 87 y3) → L_X7_numberOf_4 Q y1 n (y2 + 0) (y3 + 1) σ) ∧ (¬ ((σ 87 y1) ≤ (σ 87 y3)) → L_X7_numberOf_4 Q y1 n (y2 + 1) (y3 + 1) σ))))))))))
def V_X7_numberOf (x1 : Int) (σ : St) (Q : Int → St → Prop) : Prop := (∃ n_, L_X7_numberOf_4 Q x1 n_ 0 0 σ)
def L_X7_foundOf_2 (Q : Int → St → Prop) (y1 : Int) : Nat → Int → St → Prop
  | 0, _, _ => False
  | n + 1, y2, σ => (inR y2 ∧ (inR (σ 80 12) ∧ (((σ 80 12) ≤ y2 → Q (-1) σ) ∧ (¬ ((σ 80 12) ≤ y2) → (pre_X7_numberOf y2 σ ∧ (∀ (r7 : Int) (s5 : St), post_X7_numberOf y2 σ r7 s5 → (inR r7 ∧ (inR y1 ∧ ((¬ r7 = y1 → L_X7_foundOf_2 Q y1 n (y2 + 1) s5) ∧ (r7 = y1 → Q y2 s5))))))))))
def V_X7_foundOf (x1 : Int) (σ : St) (Q : Int → St → Prop) : Prop := (∃ n_, L_X7_foundOf_2 Q x1 n_ 0 σ)
def L_X7_depthOf_9 (Q : Int → St → Prop) : Nat → Int → Int → St → Prop
  | 0, _, _, _ => False
  | n + 1, y2, y3, σ => (inR y3 ∧ ((y3 = (-1) → Q y2 σ) ∧ (¬ (y3 = (-1)) → (((0 : Int) ≤ y3 ∧ (y3 : Int) < 100) ∧ L_X7_depthOf_9 Q n (y2 + 1) (σ 88 y3) σ))))
def V_X7_depthOf (x1 : Int) (σ : St) (Q : Int → St → Prop) : Prop := (((0 : Int) ≤ x1 ∧ (x1 : Int) < 100) ∧ (∃ n_, L_X7_depthOf_9 Q n_ 0 (σ 88 x1) σ))
def V_X7_parentOf (x1 : Int) (σ : St) (Q : Int → St → Prop) : Prop := (((0 : Int) ≤ x1 ∧ (x1 : Int) < 100) ∧ (inR (σ 88 x1) ∧ ((¬ (σ 88 x1) = (-1) → (((0 : Int) ≤ x1 ∧ (x1 : Int) < 100) ∧ (pre_X7_numberOf (σ 88 x1) σ ∧ (∀ (r8 : Int) (s6 : St), post_X7_numberOf (σ 88 x1) σ r8 s6 → Q r8 s6)))) ∧ ((σ 88 x1) = (-1) → Q (-1) σ))))
def V_X7_askNode (x1 x2 : Int) (σ : St) (Q : Int → St → Prop) : Prop := (pre_X7_parse σ ∧ (∀ s2 : St, post_X7_parse σ s2 → (pre_X7_in x1 0 ((s2 80 12) - 1) s2 ∧ (∀ r7 : Int, r7 = ans_X7_in x1 0 ((s2 80 12) - 1) s2 → (inR r7 ∧ ((¬ r7 = 0 → (pre_X7_foundOf x1 s2 ∧ (∀ (r13 : Int) (s11 : St), post_X7_foundOf x1 s2 r13 s11 → (inR x2 ∧ ((x2 = 0 → (((0 : Int) ≤ r13 ∧ (r13 : Int) < 100) ∧ Q (s11 86 r13) s11)) ∧ (¬ (x2 = 0) → ((x2 = 1 → (((0 : Int) ≤ r13 ∧ (r13 : Int) < 100) ∧ Q (s11 87 r13) s11)) ∧ (¬ (x2 = 1) → ((x2 = 2 → (pre_X7_endOf r13 s11 ∧ (∀ (r22 : Int) (s20 : St), post_X7_endOf r13 s11 r22 s20 → Q r22 s20))) ∧ (¬ (x2 = 2) → ((x2 = 3 → (pre_X7_parentOf r13 s11 ∧ (∀ (r27 : Int) (s25 : St), post_X7_parentOf r13 s11 r27 s25 → Q r27 s25))) ∧ (¬ (x2 = 3) → ((x2 = 4 → (pre_X7_depthOf r13 s11 ∧ (∀ (r32 : Int) (s30 : St), post_X7_depthOf r13 s11 r32 s30 → Q r32 s30))) ∧ (¬ (x2 = 4) → ((x2 = 5 → (((0 : Int) ≤ r13 ∧ (r13 : Int) < 100) ∧ Q (s11 89 r13) s11)) ∧ (¬ (x2 = 5) → (((0 : Int) ≤ r13 ∧ (r13 : Int) < 100) ∧ Q (s11 90 r13) s11))))))))))))))))) ∧ (r7 = 0 → (pre_X7_fail (-2) s2 ∧ (∀ r40 : Int, r40 = ans_X7_fail (-2) s2 → ∀ s38 : St, s38 = eff_X7_fail (-2) s2 → Q r40 s38)))))))))
def V_X7_nodeCount (σ : St) (Q : Int → St → Prop) : Prop := (pre_X7_parse σ ∧ (∀ s2 : St, post_X7_parse σ s2 → Q (s2 80 12) s2))
def V_X7_islandCount (σ : St) (Q : Int → St → Prop) : Prop := (pre_X7_parse σ ∧ (∀ s2 : St, post_X7_parse σ s2 → Q (s2 80 13) s2))
def V_X7_nodeRule (x1 : Int) (σ : St) (Q : Int → St → Prop) : Prop := (pre_X7_askNode x1 0 σ ∧ (∀ (r4 : Int) (s2 : St), post_X7_askNode x1 0 σ r4 s2 → Q r4 s2))
def V_X7_nodeStart (x1 : Int) (σ : St) (Q : Int → St → Prop) : Prop := (pre_X7_askNode x1 1 σ ∧ (∀ (r4 : Int) (s2 : St), post_X7_askNode x1 1 σ r4 s2 → Q r4 s2))
def V_X7_nodeEnd (x1 : Int) (σ : St) (Q : Int → St → Prop) : Prop := (pre_X7_askNode x1 2 σ ∧ (∀ (r4 : Int) (s2 : St), post_X7_askNode x1 2 σ r4 s2 → Q r4 s2))
def V_X7_nodeParent (x1 : Int) (σ : St) (Q : Int → St → Prop) : Prop := (pre_X7_askNode x1 3 σ ∧ (∀ (r4 : Int) (s2 : St), post_X7_askNode x1 3 σ r4 s2 → Q r4 s2))
def V_X7_nodeDepth (x1 : Int) (σ : St) (Q : Int → St → Prop) : Prop := (pre_X7_askNode x1 4 σ ∧ (∀ (r4 : Int) (s2 : St), post_X7_askNode x1 4 σ r4 s2 → Q r4 s2))
def V_X7_nodeWater (x1 : Int) (σ : St) (Q : Int → St → Prop) : Prop := (pre_X7_askNode x1 5 σ ∧ (∀ (r4 : Int) (s2 : St), post_X7_askNode x1 5 σ r4 s2 → Q r4 s2))
def V_X7_nodeNumber (x1 : Int) (σ : St) (Q : Int → St → Prop) : Prop := (pre_X7_askNode x1 6 σ ∧ (∀ (r4 : Int) (s2 : St), post_X7_askNode x1 6 σ r4 s2 → Q r4 s2))
def L_X7_nodeAt_23 (Q : Int → St → Prop) (y1 : Int) : Nat → Int → Int → St → Prop
  | 0, _, _, _ => False
  | n + 1, y2, y3, σ => (inR y3 ∧ (inR (σ 80 12) ∧ (((σ 80 12) ≤ y3 → (inR y2 ∧ ((¬ y2 = (-1) → (pre_X7_numberOf y2 σ ∧ (∀ (r18 : Int) (s16 : St), post_X7_numberOf y2 σ r18 s16 → Q r18 s16))) ∧ (y2 = (-1) → Q (-1) σ)))) ∧ (¬ ((σ 80 12) ≤ y3) → (((0 : Int) ≤ y3 ∧ (y3 : Int) < 100) ∧ (inR (σ 87 y3) ∧ (inR y1 ∧ ((y1 < (σ 87 y3) → L_X7_nodeAt_23 Q y1 n y2 (y3 + 1) σ) ∧ (¬ (y1 < (σ 87 y3)) → (pre_X7_endOf y3 σ ∧ (∀ (r26 : Int) (s24 : St), post_X7_endOf y3 σ r26 s24 → (inR r26 ∧ ((r26 ≤ y1 → L_X7_nodeAt_23 Q y1 n y2 (y3 + 1) s24) ∧ (¬ (r26 ≤ y1) → (inR y2 ∧ ((y2 = (-1) → L_X7_nodeAt_23 Q y1 n y3 (y3 + 1) s24) ∧ (¬ (y2 = (-1)) → (pre_X7_depthOf y3 s24 ∧ (∀ (r34 : Int) (s32 : St), post_X7_depthOf y3 s24 r34 s32 → (pre_X7_depthOf y2 s32 ∧ (∀ (r38 : Int) (s36 : St), post_X7_depthOf y2 s32 r38 s36 → (inR r34 ∧ (inR r38 ∧ ((r34 ≤ r38 → L_X7_nodeAt_23 Q y1 n y2 (y3 + 1) s36) ∧ (¬ (r34 ≤ r38) → L_X7_nodeAt_23 Q y1 n y3 (y3 + 1) s36)))))))))))))))))))))))))
def V_X7_nodeAt (x1 : Int) (σ : St) (Q : Int → St → Prop) : Prop := (pre_X7_isPosition x1 σ ∧ (∀ r4 : Int, r4 = ans_X7_isPosition x1 σ → (inR r4 ∧ ((¬ r4 = 0 → (pre_X7_parse σ ∧ (∀ s8 : St, post_X7_parse σ s8 → (∃ n_, L_X7_nodeAt_23 Q x1 n_ (-1) 0 s8)))) ∧ (r4 = 0 → (pre_X7_fail (-2) σ ∧ (∀ r45 : Int, r45 = ans_X7_fail (-2) σ → ∀ s43 : St, s43 = eff_X7_fail (-2) σ → Q r45 s43)))))))
def V_X7_waterLength (σ : St) (Q : Int → St → Prop) : Prop := (pre_X7_parse σ ∧ (∀ s2 : St, post_X7_parse σ s2 → Q (s2 80 14) s2))
def V_X7_longestWater (σ : St) (Q : Int → St → Prop) : Prop := (pre_X7_parse σ ∧ (∀ s2 : St, post_X7_parse σ s2 → Q (s2 80 15) s2))
def L_X7_countOf_22 (Q : Int → St → Prop) (y1 : Int) : Nat → Int → Int → St → Prop
  | 0, _, _, _ => False
  | n + 1, y2, y3, σ => (inR y3 ∧ (inR (σ 80 12) ∧ (((σ 80 12) ≤ y3 → Q y2 σ) ∧ (¬ ((σ 80 12) ≤ y3) → (((0 : Int) ≤ y3 ∧ (y3 : Int) < 100) ∧ (inR (σ 86 y3) ∧ (inR y1 ∧ ((¬ (σ 86 y3) = y1 → L_X7_countOf_22 Q y1 n (y2 + 0) (y3 + 1) σ) ∧ ((σ 86 y3) = y1 → L_X7_countOf_22 Q y1 n (y2 + 1) (y3 + 1) σ)))))))))
def V_X7_countOf (x1 : Int) (σ : St) (Q : Int → St → Prop) : Prop := (pre_X7_isRule x1 σ ∧ (∀ r4 : Int, r4 = ans_X7_isRule x1 σ → (inR r4 ∧ ((¬ r4 = 0 → (pre_X7_parse σ ∧ (∀ s8 : St, post_X7_parse σ s8 → (∃ n_, L_X7_countOf_22 Q x1 n_ 0 0 s8)))) ∧ (r4 = 0 → (pre_X7_fail (-2) σ ∧ (∀ r20 : Int, r20 = ans_X7_fail (-2) σ → ∀ s18 : St, s18 = eff_X7_fail (-2) σ → Q r20 s18)))))))
def L_X7_undo_26 (Q : Int → St → Prop) : Nat → Int → St → Prop
  | 0, _, _ => False
  | n + 1, y1, σ => (inR y1 ∧ ((161 ≤ y1 → Q (σ 80 2) σ) ∧ (¬ (161 ≤ y1) → (((0 : Int) ≤ ((161 * (σ 80 2)) + y1) ∧ (((161 * (σ 80 2)) + y1) : Int) < 644) ∧ (((0 : Int) ≤ y1 ∧ (y1 : Int) < 161) ∧ (∀ s8 : St, s8 = up σ 81 y1 (σ 82 ((161 * (σ 80 2)) + y1)) → L_X7_undo_26 Q n (y1 + 1) s8))))))
def V_X7_undo (σ : St) (Q : Int → St → Prop) : Prop := (inR (σ 80 2) ∧ ((¬ (σ 80 2) = 0 → (∀ s3 : St, s3 = up σ 80 2 ((σ 80 2) - 1) → (∃ n_, L_X7_undo_26 Q n_ 0 s3))) ∧ ((σ 80 2) = 0 → (pre_X7_fail (-3) σ ∧ (∀ r12 : Int, r12 = ans_X7_fail (-3) σ → ∀ s10 : St, s10 = eff_X7_fail (-3) σ → Q r12 s10)))))
def V_X7_errorCount (x1 : Int) (σ : St) (Q : Int → St → Prop) : Prop := (pre_X7_in x1 0 2 σ ∧ (∀ r4 : Int, r4 = ans_X7_in x1 0 2 σ → (inR r4 ∧ ((r4 = 0 → (pre_X7_fail (-2) σ ∧ (∀ r10 : Int, r10 = ans_X7_fail (-2) σ → ∀ s8 : St, s8 = eff_X7_fail (-2) σ → Q r10 s8))) ∧ (¬ (r4 = 0) → (((0 : Int) ≤ x1 ∧ (x1 : Int) < 3) ∧ Q (σ 84 x1) σ))))))
def V_X7_mix (x1 : Int) (σ : St) (Q : St → Prop) : Prop := (inR x1 ∧ (∀ s2 : St, s2 = up σ 80 16 ((31 * (σ 80 16)) + x1) → Q s2))
def L_X7_mixRules_23 (Q : St → Prop) (K : St → Prop) (y1 : Int) : Nat → Int → St → Prop
  | 0, _, _ => False
  | n + 1, y2, σ => (((0 : Int) ≤ (101 + y1) ∧ ((101 + y1) : Int) < 161) ∧ (inR y2 ∧ (inR (σ 81 (101 + y1)) ∧ (((σ 81 (101 + y1)) ≤ y2 → K σ) ∧ (¬ ((σ 81 (101 + y1)) ≤ y2) → (pre_X7_elementOf y1 y2 σ ∧ (∀ r14 : Int, r14 = ans_X7_elementOf y1 y2 σ → (pre_X7_mix r14 σ ∧ (∀ s16 : St, s16 = eff_X7_mix r14 σ → L_X7_mixRules_23 Q K y1 n (y2 + 1) s16)))))))))
def L_X7_mixRules_2 (Q : St → Prop) : Nat → Int → St → Prop
  | 0, _, _ => False
  | n + 1, y1, σ => (inR y1 ∧ ((6 ≤ y1 → Q σ) ∧ (¬ (6 ≤ y1) → (((0 : Int) ≤ (101 + y1) ∧ ((101 + y1) : Int) < 161) ∧ (pre_X7_mix (σ 81 (101 + y1)) σ ∧ (∀ s5 : St, s5 = eff_X7_mix (σ 81 (101 + y1)) σ → (∃ n_, L_X7_mixRules_23 Q (fun  s18 => (((0 : Int) ≤ (155 + y1) ∧ ((155 + y1) : Int) < 161) ∧ (pre_X7_mix (s18 81 (155 + y1)) s18 ∧ (∀ s21 : St, s21 = eff_X7_mix (s18 81 (155 + y1)) s18 → L_X7_mixRules_2 Q n (y1 + 1) s21)))) y1 n_ 0 s5)))))))
def V_X7_mixRules (σ : St) (Q : St → Prop) : Prop := (∃ n_, L_X7_mixRules_2 Q n_ 0 σ)
def L_X7_digest_111 (Q : Int → St → Prop) : Nat → Int → St → Prop
  | 0, _, _ => False
  | n + 1, y1, σ => (inR y1 ∧ (inR (σ 80 12) ∧ (((σ 80 12) ≤ y1 → (pre_X7_mix (σ 80 14) σ ∧ (∀ s36 : St, s36 = eff_X7_mix (σ 80 14) σ → (pre_X7_mix (s36 80 15) s36 ∧ (∀ s39 : St, s39 = eff_X7_mix (s36 80 15) s36 → Q (s39 80 16) s39))))) ∧ (¬ ((σ 80 12) ≤ y1) → (pre_X7_foundOf y1 σ ∧ (∀ (r44 : Int) (s42 : St), post_X7_foundOf y1 σ r44 s42 → (((0 : Int) ≤ r44 ∧ (r44 : Int) < 100) ∧ (pre_X7_mix (s42 86 r44) s42 ∧ (∀ s47 : St, s47 = eff_X7_mix (s42 86 r44) s42 → (((0 : Int) ≤ r44 ∧ (r44 : Int) < 100) ∧ (pre_X7_mix (s47 87 r44) s47 ∧ (∀ s51 : St, s51 = eff_X7_mix (s47 87 r44) s47 → (pre_X7_endOf r44 s51 ∧ (∀ (r56 : Int) (s54 : St), post_X7_endOf r44 s51 r56 s54 → (pre_X7_mix r56 s54 ∧ (∀ s58 : St, s58 = eff_X7_mix r56 s54 → (pre_X7_parentOf r44 s58 ∧ (∀ (r63 : Int) (s61 : St), post_X7_parentOf r44 s58 r63 s61 → (pre_X7_mix r63 s61 ∧ (∀ s65 : St, s65 = eff_X7_mix r63 s61 → (((0 : Int) ≤ r44 ∧ (r44 : Int) < 100) ∧ (pre_X7_mix (s65 89 r44) s65 ∧ (∀ s69 : St, s69 = eff_X7_mix (s65 89 r44) s65 → (((0 : Int) ≤ r44 ∧ (r44 : Int) < 100) ∧ (pre_X7_mix (s69 90 r44) s69 ∧ (∀ s73 : St, s73 = eff_X7_mix (s69 90 r44) s69 → L_X7_digest_111 Q n (y1 + 1) s73))))))))))))))))))))))))))
def L_X7_digest_69 (Q : Int → St → Prop) : Nat → Int → St → Prop
  | 0, _, _ => False
  | n + 1, y1, σ => (inR y1 ∧ (inR (σ 81 0) ∧ (((σ 81 0) ≤ y1 → (pre_X7_mixRules σ ∧ (∀ s27 : St, post_X7_mixRules σ s27 → (pre_X7_mix (s27 80 12) s27 ∧ (∀ s30 : St, s30 = eff_X7_mix (s27 80 12) s27 → (∃ n_, L_X7_digest_111 Q n_ 0 s30)))))) ∧ (¬ ((σ 81 0) ≤ y1) → (((0 : Int) ≤ (1 + y1) ∧ ((1 + y1) : Int) < 161) ∧ (pre_X7_mix (σ 81 (1 + y1)) σ ∧ (∀ s77 : St, s77 = eff_X7_mix (σ 81 (1 + y1)) σ → L_X7_digest_69 Q n (y1 + 1) s77)))))))
def V_X7_digest (σ : St) (Q : Int → St → Prop) : Prop := (pre_X7_parse σ ∧ (∀ s2 : St, post_X7_parse σ s2 → (∀ s4 : St, s4 = up s2 80 16 17305 → (pre_X7_mix (s4 84 0) s4 ∧ (∀ s6 : St, s6 = eff_X7_mix (s4 84 0) s4 → (pre_X7_mix (s6 84 1) s6 ∧ (∀ s9 : St, s9 = eff_X7_mix (s6 84 1) s6 → (pre_X7_mix (s9 84 2) s9 ∧ (∀ s12 : St, s12 = eff_X7_mix (s9 84 2) s9 → (pre_X7_mix (s12 80 4) s12 ∧ (∀ s15 : St, s15 = eff_X7_mix (s12 80 4) s12 → (pre_X7_mix (s15 80 2) s15 ∧ (∀ s18 : St, s18 = eff_X7_mix (s15 80 2) s15 → (pre_X7_mix (s18 81 0) s18 ∧ (∀ s21 : St, s21 = eff_X7_mix (s18 81 0) s18 → (∃ n_, L_X7_digest_69 Q n_ 0 s21))))))))))))))))
end
section
theorem b01 {c : Prop} [Decidable c] : ((if c then (1 : Int) else 0) = 0) = ¬ c := by by_cases h : c <;> simp [h]
theorem b01R {c : Prop} [Decidable c] : inR (if c then (1 : Int) else 0) = True := by
  apply propext
  refine ⟨fun _ => trivial, fun _ => ?_⟩
  by_cases h : c
  · rw [if_pos h]; exact ⟨by decide, by decide⟩
  · rw [if_neg h]; exact ⟨by decide, by decide⟩
set_option maxHeartbeats 1000000 in
theorem v_X5_textSize (σ : St) (hp : pre_X5_textSize σ) : V_X5_textSize σ (post_X5_textSize σ) := by
  simp only [pre_X5_textSize] at hp
  unfold V_X5_textSize
  try simp only [forall_eq, b01, b01R]
  repeat' first | exact trivial | refine And.intro ?_ ?_ | intro _
  all_goals try simp only [post_X5_textSize, ans_X5_textSize, eff_X4_set]
  all_goals repeat' split
  all_goals first | rfl | omega | (exfalso; omega)
set_option maxHeartbeats 1000000 in
theorem v_X6_isByte (x0 : Int) (σ : St) (hp : pre_X6_isByte x0 σ) : V_X6_isByte x0 σ (post_X6_isByte x0 σ) := by
  simp only [pre_X6_isByte] at hp
  unfold V_X6_isByte
  try simp only [forall_eq, b01, b01R]
  repeat' first | exact trivial | refine And.intro ?_ ?_ | intro _
  all_goals try simp only [post_X6_isByte, ans_X6_isByte, eff_X4_set]
  all_goals repeat' split
  all_goals first | rfl | omega | (exfalso; omega)
set_option maxHeartbeats 1000000 in
theorem v_X4_get (k nn : Nat) (hik : isRow k nn) (x1 : Int) (σ : St) (hp : pre_X4_get k nn x1 σ) : V_X4_get k nn x1 σ (post_X4_get k nn x1 σ) := by
  simp only [pre_X4_get] at hp
  have hlt := isRow_lt hik
  unfold V_X4_get
  try simp only [forall_eq, b01, b01R]
  repeat' first | exact trivial | refine And.intro ?_ ?_ | intro _
  all_goals try simp only [post_X4_get, ans_X4_get, eff_X4_set]
  all_goals repeat' split
  all_goals first | rfl | omega | (exfalso; omega)
set_option maxHeartbeats 1000000 in
theorem v_X4_set (k nn : Nat) (hik : isRow k nn) (x1 x2 : Int) (σ : St) (hp : pre_X4_set k nn x1 x2 σ) : V_X4_set k nn x1 x2 σ (post_X4_set k nn x1 x2 σ) := by
  simp only [pre_X4_set] at hp
  have hlt := isRow_lt hik
  unfold V_X4_set
  try simp only [forall_eq, b01, b01R]
  repeat' first | exact trivial | refine And.intro ?_ ?_ | intro _
  all_goals try simp only [post_X4_set, eff_X4_set, eff_X4_set]
  all_goals repeat' split
  all_goals first | rfl | omega | (exfalso; omega)
set_option maxHeartbeats 1000000 in
theorem v_X6_fail (x1 : Int) (σ : St) (hp : pre_X6_fail x1 σ) : V_X6_fail x1 σ (post_X6_fail x1 σ) := by
  simp only [pre_X6_fail] at hp
  unfold V_X6_fail
  try simp only [pre_X4_get, ans_X4_get, pre_X4_set, forall_eq, b01, b01R]
  repeat' first | exact trivial | refine And.intro ?_ ?_ | intro _
  all_goals try simp only [post_X6_fail, ans_X6_fail, eff_X6_fail, eff_X4_set]
  all_goals repeat' split
  all_goals first | rfl | omega | (exfalso; omega)
set_option maxHeartbeats 1000000 in
theorem v_X1_slotAt (x1 : Int) (σ : St) (hp : pre_X1_slotAt x1 σ) : V_X1_slotAt x1 σ (post_X1_slotAt x1 σ) := by
  simp only [pre_X1_slotAt] at hp
  unfold V_X1_slotAt
  try simp only [forall_eq, b01, b01R]
  repeat' first | exact trivial | refine And.intro ?_ ?_ | intro _
  all_goals try simp only [post_X1_slotAt, ans_X1_slotAt, eff_X4_set]
  all_goals repeat' split
  all_goals first | rfl | omega | (exfalso; omega)
set_option maxHeartbeats 1000000 in
theorem v_X6_isInText (x1 : Int) (σ : St) (hp : pre_X6_isInText x1 σ) : V_X6_isInText x1 σ (post_X6_isInText x1 σ) := by
  simp only [pre_X6_isInText] at hp
  unfold V_X6_isInText
  try simp only [pre_X5_textSize, ans_X5_textSize, forall_eq, b01, b01R]
  repeat' first | exact trivial | refine And.intro ?_ ?_ | intro _
  all_goals try simp only [post_X6_isInText, ans_X6_isInText, eff_X4_set]
  all_goals repeat' split
  all_goals first | rfl | omega | (exfalso; omega)
set_option maxHeartbeats 1000000 in
theorem v_X5_textAt (x1 : Int) (σ : St) (hp : pre_X5_textAt x1 σ) : V_X5_textAt x1 σ (post_X5_textAt x1 σ) := by
  simp only [pre_X5_textAt] at hp
  unfold V_X5_textAt
  try simp only [pre_X4_get, ans_X4_get, forall_eq, b01, b01R]
  repeat' first | exact trivial | refine And.intro ?_ ?_ | intro _
  all_goals try simp only [post_X5_textAt, ans_X5_textAt, eff_X4_set]
  all_goals repeat' split
  all_goals first | rfl | omega | (exfalso; omega)
set_option maxHeartbeats 1000000 in
theorem v_X5_setByte (x1 x2 : Int) (σ : St) (hp : pre_X5_setByte x1 x2 σ) : V_X5_setByte x1 x2 σ (post_X5_setByte x1 x2 σ) := by
  simp only [pre_X5_setByte] at hp
  unfold V_X5_setByte
  try simp only [pre_X4_set, forall_eq, b01, b01R]
  repeat' first | exact trivial | refine And.intro ?_ ?_ | intro _
  all_goals try simp only [post_X5_setByte, eff_X5_setByte, eff_X4_set]
  all_goals repeat' split
  all_goals first | rfl | omega | (exfalso; omega)
set_option maxHeartbeats 1000000 in
theorem v_X6_length (σ : St) (hp : pre_X6_length σ) : V_X6_length σ (post_X6_length σ) := by
  simp only [pre_X6_length] at hp
  unfold V_X6_length
  try simp only [pre_X5_textSize, ans_X5_textSize, forall_eq, b01, b01R]
  repeat' first | exact trivial | refine And.intro ?_ ?_ | intro _
  all_goals try simp only [post_X6_length, ans_X6_length, eff_X4_set]
  all_goals repeat' split
  all_goals first | rfl | omega | (exfalso; omega)
set_option maxHeartbeats 1000000 in
theorem v_X6_byteAt (x1 : Int) (σ : St) (hp : pre_X6_byteAt x1 σ) : V_X6_byteAt x1 σ (post_X6_byteAt x1 σ) := by
  simp only [pre_X6_byteAt] at hp
  unfold V_X6_byteAt
  try simp only [pre_X5_textAt, ans_X5_textAt, pre_X6_fail, ans_X6_fail, pre_X6_isInText, ans_X6_isInText, forall_eq, b01, b01R]
  repeat' first | exact trivial | refine And.intro ?_ ?_ | intro _
  all_goals try simp only [post_X6_byteAt, ans_X6_byteAt, eff_X6_byteAt, eff_X4_set]
  all_goals repeat' split
  all_goals first | rfl | omega | (exfalso; omega)
set_option maxHeartbeats 1000000 in
theorem v_X6_append (x1 : Int) (σ : St) (hp : pre_X6_append x1 σ) : V_X6_append x1 σ (post_X6_append x1 σ) := by
  simp only [pre_X6_append] at hp
  unfold V_X6_append
  try simp only [pre_X4_set, pre_X6_fail, ans_X6_fail, pre_X6_isByte, ans_X6_isByte, forall_eq, b01, b01R]
  repeat' first | exact trivial | refine And.intro ?_ ?_ | intro _
  all_goals try simp only [post_X6_append, ans_X6_append, eff_X6_append, eff_X4_set]
  all_goals repeat' split
  all_goals first | rfl | omega | (exfalso; omega)
set_option maxHeartbeats 1000000 in
theorem v_X6_clearPattern (σ : St) (hp : pre_X6_clearPattern σ) : V_X6_clearPattern σ (post_X6_clearPattern σ) := by
  simp only [pre_X6_clearPattern] at hp
  unfold V_X6_clearPattern
  try simp only [forall_eq, b01, b01R]
  repeat' first | exact trivial | refine And.intro ?_ ?_ | intro _
  all_goals try simp only [post_X6_clearPattern, ans_X6_clearPattern, eff_X6_clearPattern, eff_X4_set]
  all_goals repeat' split
  all_goals first | rfl | omega | (exfalso; omega)
set_option maxHeartbeats 1000000 in
theorem v_X6_isRule (x0 : Int) (σ : St) (hp : pre_X6_isRule x0 σ) : V_X6_isRule x0 σ (post_X6_isRule x0 σ) := by
  simp only [pre_X6_isRule] at hp
  unfold V_X6_isRule
  try simp only [forall_eq, b01, b01R]
  repeat' first | exact trivial | refine And.intro ?_ ?_ | intro _
  all_goals try simp only [post_X6_isRule, ans_X6_isRule, eff_X4_set]
  all_goals repeat' split
  all_goals first | rfl | omega | (exfalso; omega)
set_option maxHeartbeats 1000000 in
theorem v_X6_isReference (x0 : Int) (σ : St) (hp : pre_X6_isReference x0 σ) : V_X6_isReference x0 σ (post_X6_isReference x0 σ) := by
  simp only [pre_X6_isReference] at hp
  unfold V_X6_isReference
  try simp only [forall_eq, b01, b01R]
  repeat' first | exact trivial | refine And.intro ?_ ?_ | intro _
  all_goals try simp only [post_X6_isReference, ans_X6_isReference, eff_X4_set]
  all_goals repeat' split
  all_goals first | rfl | omega | (exfalso; omega)
set_option maxHeartbeats 1000000 in
theorem v_X6_canStartPattern (x0 : Int) (σ : St) (hp : pre_X6_canStartPattern x0 σ) : V_X6_canStartPattern x0 σ (post_X6_canStartPattern x0 σ) := by
  simp only [pre_X6_canStartPattern] at hp
  unfold V_X6_canStartPattern
  try simp only [pre_X6_isReference, ans_X6_isReference, forall_eq, b01, b01R]
  repeat' first | exact trivial | refine And.intro ?_ ?_ | intro _
  all_goals try simp only [post_X6_canStartPattern, ans_X6_canStartPattern, eff_X4_set]
  all_goals repeat' split
  all_goals first | rfl | omega | (exfalso; omega)
set_option maxHeartbeats 1000000 in
theorem v_X5_patternSize (x1 : Int) (σ : St) (hp : pre_X5_patternSize x1 σ) : V_X5_patternSize x1 σ (post_X5_patternSize x1 σ) := by
  simp only [pre_X5_patternSize] at hp
  unfold V_X5_patternSize
  try simp only [pre_X4_get, ans_X4_get, forall_eq, b01, b01R]
  repeat' first | exact trivial | refine And.intro ?_ ?_ | intro _
  all_goals try simp only [post_X5_patternSize, ans_X5_patternSize, eff_X4_set]
  all_goals repeat' split
  all_goals first | rfl | omega | (exfalso; omega)
set_option maxHeartbeats 1000000 in
theorem v_X5_stopOf (x1 : Int) (σ : St) (hp : pre_X5_stopOf x1 σ) : V_X5_stopOf x1 σ (post_X5_stopOf x1 σ) := by
  simp only [pre_X5_stopOf] at hp
  unfold V_X5_stopOf
  try simp only [pre_X4_get, ans_X4_get, forall_eq, b01, b01R]
  repeat' first | exact trivial | refine And.intro ?_ ?_ | intro _
  all_goals try simp only [post_X5_stopOf, ans_X5_stopOf, eff_X4_set]
  all_goals repeat' split
  all_goals first | rfl | omega | (exfalso; omega)
set_option maxHeartbeats 1000000 in
theorem v_X5_putStop (x1 x2 : Int) (σ : St) (hp : pre_X5_putStop x1 x2 σ) : V_X5_putStop x1 x2 σ (post_X5_putStop x1 x2 σ) := by
  simp only [pre_X5_putStop] at hp
  unfold V_X5_putStop
  try simp only [pre_X4_set, forall_eq, b01, b01R]
  repeat' first | exact trivial | refine And.intro ?_ ?_ | intro _
  all_goals try simp only [post_X5_putStop, eff_X5_putStop, eff_X4_set]
  all_goals repeat' split
  all_goals first | rfl | omega | (exfalso; omega)
set_option maxHeartbeats 1000000 in
theorem v_X5_patternAt (x1 x2 : Int) (σ : St) (hp : pre_X5_patternAt x1 x2 σ) : V_X5_patternAt x1 x2 σ (post_X5_patternAt x1 x2 σ) := by
  simp only [pre_X5_patternAt] at hp
  unfold V_X5_patternAt
  try simp only [pre_X4_get, ans_X4_get, forall_eq, b01, b01R]
  repeat' first | exact trivial | refine And.intro ?_ ?_ | intro _
  all_goals try simp only [post_X5_patternAt, ans_X5_patternAt, eff_X4_set]
  all_goals repeat' split
  all_goals first | rfl | omega | (exfalso; omega)
set_option maxHeartbeats 1000000 in
theorem v_X6_element (x1 x2 : Int) (σ : St) (hp : pre_X6_element x1 x2 σ) : V_X6_element x1 x2 σ (post_X6_element x1 x2 σ) := by
  simp only [pre_X6_element] at hp
  have h5 := hp.2.2 x1
  unfold V_X6_element
  try simp only [pre_X5_patternAt, ans_X5_patternAt, pre_X5_patternSize, ans_X5_patternSize, pre_X6_fail, ans_X6_fail, pre_X6_isRule, ans_X6_isRule, forall_eq, b01, b01R]
  repeat' first | exact trivial | refine And.intro ?_ ?_ | intro _
  all_goals try simp only [post_X6_element, ans_X6_element, eff_X6_element, eff_X4_set]
  all_goals repeat' split
  all_goals first | rfl | omega | (exfalso; omega)
set_option maxHeartbeats 1000000 in
theorem v_X1_savedCount (σ : St) (hp : pre_X1_savedCount σ) : V_X1_savedCount σ (post_X1_savedCount σ) := by
  simp only [pre_X1_savedCount] at hp
  unfold V_X1_savedCount
  try simp only [forall_eq, b01, b01R]
  repeat' first | exact trivial | refine And.intro ?_ ?_ | intro _
  all_goals try simp only [post_X1_savedCount, ans_X1_savedCount, eff_X4_set]
  all_goals repeat' split
  all_goals first | rfl | omega | (exfalso; omega)
set_option maxHeartbeats 1000000 in
theorem v_X6_errorCount (x1 : Int) (σ : St) (hp : pre_X6_errorCount x1 σ) : V_X6_errorCount x1 σ (post_X6_errorCount x1 σ) := by
  simp only [pre_X6_errorCount] at hp
  unfold V_X6_errorCount
  try simp only [pre_X4_get, ans_X4_get, pre_X6_fail, ans_X6_fail, forall_eq, b01, b01R]
  repeat' first | exact trivial | refine And.intro ?_ ?_ | intro _
  all_goals try simp only [post_X6_errorCount, ans_X6_errorCount, eff_X6_errorCount, eff_X4_set]
  all_goals repeat' split
  all_goals first | rfl | omega | (exfalso; omega)
set_option maxHeartbeats 1000000 in
theorem v_X6_mix (x0 x2 : Int) (σ : St) (hp : pre_X6_mix x0 x2 σ) : V_X6_mix x0 x2 σ (post_X6_mix x0 x2 σ) := by
  simp only [pre_X6_mix] at hp
  unfold V_X6_mix
  try simp only [forall_eq, b01, b01R]
  repeat' first | exact trivial | refine And.intro ?_ ?_ | intro _
  all_goals try simp only [post_X6_mix, ans_X6_mix, eff_X4_set]
  all_goals repeat' split
  all_goals first | rfl | omega | (exfalso; omega)
end
section
theorem up_ur (σ : St) (k : Nat) (f : Int → Int) (i v : Int) : up (ur σ k f) k i v = ur σ k (ui f i v) := by
  unfold up
  rw [ur_s]
  funext q
  unfold ur
  split <;> rfl
theorem ur_congr {σ : St} {k : Nat} {f g : Int → Int} (h : ∀ j, f j = g j) : ur σ k f = ur σ k g := by rw [show f = g from funext h]
theorem ur_ur (σ : St) (k : Nat) (f g : Int → Int) : ur (ur σ k f) k g = ur σ k g := by
  funext q
  unfold ur
  split <;> rfl
theorem ur_self (σ : St) (k : Nat) : ur σ k (σ k) = σ := by
  funext q
  unfold ur
  split
  · next h => rw [h]
  · rfl
theorem ur_comm (σ : St) {k l : Nat} (f g : Int → Int) (h : k ≠ l) : ur (ur σ k f) l g = ur (ur σ l g) k f := by
  funext q
  unfold ur
  by_cases h1 : q = l
  · subst h1
    rw [if_pos rfl, if_neg (Ne.symm h), if_pos rfl]
  · rw [if_neg h1, if_neg h1]
theorem ur_id {σ : St} {k : Nat} {f : Int → Int} (h : ∀ j, f j = σ k j) : ur σ k f = σ := by
  rw [show f = σ k from funext h, ur_self]
theorem l_X4_copyFrom (k nn k2 nn2 : Nat) (hik : isRow k nn) (hik2 : isRow k2 nn2) (hk : k ≠ k2) (Q : St → Prop) (σ : St) (c : Int) (hc : c = min (nn : Int) (nn2 : Int)) (hQ : Q (eff_X4_copyFrom k nn k2 nn2 σ)) : ∀ (d : Nat) (i : Int) (s : St), 0 ≤ i → i + d = c → s = ur σ (k + 1) (fun j => if 0 ≤ j ∧ j < i then σ (k2 + 1) j else σ (k + 1) j) → ∃ n, L_X4_copyFrom_16 k nn k2 nn2 Q c n i s := by
  have h1 := isRow_lt hik
  have h2 := isRow_lt hik2
  intro d
  induction d with
  | zero =>
    intro i s h0 hi hs
    refine ⟨1, ⟨by omega, by omega⟩, ⟨by omega, by omega⟩, fun _ => ?_, fun h => absurd (by omega) h⟩
    have e : s = eff_X4_copyFrom k nn k2 nn2 σ := by
      rw [hs]
      refine ur_congr (fun j => ?_)
      split <;> split <;> first | rfl | (exfalso; omega)
    rw [e]
    exact hQ
  | succ d ih =>
    intro i s h0 hi hs
    have e : up s (k + 1) i (s (k2 + 1) i) = ur σ (k + 1) (fun j => if 0 ≤ j ∧ j < i + 1 then σ (k2 + 1) j else σ (k + 1) j) := by
      rw [hs, up_ur, ur_n _ _ (show k2 + 1 ≠ k + 1 by omega)]
      refine ur_congr (fun j => ?_)
      unfold ui
      dsimp only
      by_cases hj : j = i
      · subst hj
        rw [if_pos rfl, if_pos (by omega)]
      · rw [if_neg hj]
        split <;> split <;> first | rfl | (exfalso; omega)
    obtain ⟨n, hn⟩ := ih (i + 1) _ (by omega) (by omega) e
    exact ⟨n + 1, ⟨by omega, by omega⟩, ⟨by omega, by omega⟩, fun h => absurd h (by omega), fun _ => ⟨⟨h0, by omega⟩, ⟨h0, by omega⟩, fun s9 e9 => by rw [e9]; exact hn⟩⟩
theorem v_X4_copyFrom (k nn : Nat) (k2 nn2 : Nat) (hik : isRow k nn) (hik2 : isRow k2 nn2) (σ : St) (hp : pre_X4_copyFrom k nn k2 nn2 σ) : V_X4_copyFrom k nn k2 nn2 σ (post_X4_copyFrom k nn k2 nn2 σ) := by
  have h1 := isRow_lt hik
  have h2 := isRow_lt hik2
  refine ⟨⟨by omega, by omega⟩, ⟨by omega, by omega⟩, fun c hc => ?_⟩
  refine l_X4_copyFrom k nn k2 nn2 hik hik2 hp (post_X4_copyFrom k nn k2 nn2 σ) σ c hc rfl c.toNat 0 σ (by omega) (by omega) ?_
  refine (ur_id (fun j => ?_)).symm
  rw [if_neg (by omega)]
theorem l_X4_fill (k nn : Nat) (hik : isRow k nn) (v : Int) (Q : St → Prop) (σ : St) (hQ : Q (ur σ (k + 1) (fun j => if 0 ≤ j ∧ j < (nn : Int) then v else σ (k + 1) j))) : ∀ (d : Nat) (i : Int) (s : St), 0 ≤ i → i + d = nn → s = ur σ (k + 1) (fun j => if 0 ≤ j ∧ j < i then v else σ (k + 1) j) → ∃ n, L_X4_fill_2 k nn Q v n i s := by
  have h1 := isRow_lt hik
  intro d
  induction d with
  | zero =>
    intro i s h0 hi hs
    refine ⟨1, ⟨by omega, by omega⟩, ⟨by omega, by omega⟩, fun _ => ?_, fun h => absurd (by omega) h⟩
    rw [hs, show i = (nn : Int) by omega]
    exact hQ
  | succ d ih =>
    intro i s h0 hi hs
    have e : up s (k + 1) i v = ur σ (k + 1) (fun j => if 0 ≤ j ∧ j < i + 1 then v else σ (k + 1) j) := by
      rw [hs, up_ur]
      refine ur_congr (fun j => ?_)
      unfold ui
      dsimp only
      by_cases hj : j = i
      · subst hj
        rw [if_pos rfl, if_pos (by omega)]
      · rw [if_neg hj]
        split <;> split <;> first | rfl | (exfalso; omega)
    obtain ⟨n, hn⟩ := ih (i + 1) _ (by omega) (by omega) e
    exact ⟨n + 1, ⟨by omega, by omega⟩, ⟨by omega, by omega⟩, fun h => absurd h (by omega), fun _ => ⟨⟨h0, by omega⟩, fun s9 e9 => by rw [e9]; exact hn⟩⟩
theorem v_X4_fill (k nn : Nat) (hik : isRow k nn) (x1 : Int) (σ : St) (hp : pre_X4_fill k nn x1 σ) : V_X4_fill k nn x1 σ (post_X4_fill k nn x1 σ) := by
  refine l_X4_fill k nn hik x1 (post_X4_fill k nn x1 σ) σ rfl nn 0 σ (by omega) (by omega) ?_
  refine (ur_id (fun j => ?_)).symm
  rw [if_neg (by omega)]
theorem v_X5_copyFrom (b : Nat) (b2 : Nat) (hib : isSt b) (hib2 : isSt b2) (σ : St) (hp : pre_X5_copyFrom b b2 σ) : V_X5_copyFrom b b2 σ (post_X5_copyFrom b b2 σ) := by
  unfold pre_X5_copyFrom at hp
  intro s1 e1
  refine ⟨by unfold pre_X4_copyFrom; omega, fun s3 e3 => ⟨by unfold pre_X4_copyFrom; omega, fun s6 e6 => ⟨by unfold pre_X4_copyFrom; omega, fun s9 e9 => ⟨by unfold pre_X4_copyFrom; omega, fun s12 e12 => ?_⟩⟩⟩⟩
  rw [e12, e9, e6, e3, e1]
  rfl
theorem l_X5_insertByte (x1 x2 : Int) (σ : St) (hp : pre_X5_insertByte x1 x2 σ) (Q : St → Prop) (hQ : Q (eff_X5_insertByte x1 x2 σ)) : ∀ (d : Nat) (i : Int) (s : St), i = x1 + d → i ≤ σ 1 4 → s = ur σ 3 (fun j => if i < j ∧ j ≤ σ 1 4 then σ 3 (j - 1) else σ 3 j) → ∃ n, L_X5_insertByte_5 Q x1 x2 n i s := by
  obtain ⟨p0, p1, p2⟩ := hp
  intro d
  induction d with
  | zero =>
    intro i s hi hl hs
    have hi : i = x1 := by omega
    refine ⟨1, ⟨by omega, by omega⟩, ⟨by omega, by omega⟩, fun _ => ⟨⟨by omega, by omega⟩, fun s5 e5 s7 e7 => ?_⟩, fun h => absurd (by omega) h⟩
    have e : s7 = eff_X5_insertByte x1 x2 σ := by
      have h5 : s5 = ur σ 3 (fun j => if j = x1 then x2 else if x1 < j ∧ j ≤ σ 1 4 then σ 3 (j - 1) else σ 3 j) := by
        rw [e5]
        unfold eff_X4_set
        rw [if_pos (by omega), hs, up_ur]
        refine ur_congr (fun j => ?_)
        unfold ui
        rw [hi]
      rw [e7, h5]
      unfold eff_X5_insertByte
      rw [ur_n (q := 1) _ _ (by decide)]
    rw [e]
    exact hQ
  | succ d ih =>
    intro i s hi hl hs
    have e : eff_X4_set 2 100 i (ans_X4_get 2 100 (i - 1) s) s = ur σ 3 (fun j => if i - 1 < j ∧ j ≤ σ 1 4 then σ 3 (j - 1) else σ 3 j) := by
      unfold eff_X4_set ans_X4_get
      rw [if_pos (by omega), if_pos (by omega), hs, up_ur, ur_s]
      refine ur_congr (fun j => ?_)
      unfold ui
      dsimp only
      by_cases hj : j = i
      · subst hj
        rw [if_pos rfl, if_neg (by omega), if_pos (by omega)]
      · rw [if_neg hj]
        split <;> split <;> first | rfl | (exfalso; omega)
    obtain ⟨n, hn⟩ := ih (i - 1) _ (by omega) (by omega) e
    refine ⟨n + 1, ⟨by omega, by omega⟩, ⟨by omega, by omega⟩, fun h => absurd h (by omega), fun _ => ⟨⟨by omega, by omega⟩, fun r er => ⟨⟨by omega, by omega⟩, fun s9 e9 => ?_⟩⟩⟩
    rw [e9, er]
    exact hn
theorem v_X5_insertByte (x1 x2 : Int) (σ : St) (hp : pre_X5_insertByte x1 x2 σ) : V_X5_insertByte x1 x2 σ (post_X5_insertByte x1 x2 σ) := by
  obtain ⟨p0, p1, p2⟩ := id hp
  refine l_X5_insertByte x1 x2 σ hp (post_X5_insertByte x1 x2 σ) rfl (σ 1 4 - x1).toNat (σ 1 4) σ (by omega) (by omega) ?_
  refine (ur_id (fun j => ?_)).symm
  rw [if_neg (by omega)]
theorem l_X5_removeBytes (x1 x2 : Int) (σ : St) (hp : pre_X5_removeBytes x1 x2 σ) (Q : St → Prop) (hQ : Q (eff_X5_removeBytes x1 x2 σ)) : ∀ (d : Nat) (i : Int) (s : St), x1 ≤ i → i + d = σ 1 4 - x2 → s = ur (up σ 1 4 (σ 1 4 - x2)) 3 (fun j => if x1 ≤ j ∧ j < i then σ 3 (j + x2) else σ 3 j) → ∃ n, L_X5_removeBytes_12 Q x2 n i s := by
  obtain ⟨p0, p1, p2, p3⟩ := hp
  intro d
  induction d with
  | zero =>
    intro i s h0 hi hs
    have hl : s 1 4 = σ 1 4 - x2 := by rw [hs, ur_n (q := 1) _ _ (by decide), up_s, ui_s]
    refine ⟨1, ⟨by omega, by omega⟩, ⟨by omega, by omega⟩, fun _ => ?_, fun h => absurd (by omega) h⟩
    rw [hs, show i = σ 1 4 - x2 by omega]
    exact hQ
  | succ d ih =>
    intro i s h0 hi hs
    have hl : s 1 4 = σ 1 4 - x2 := by rw [hs, ur_n (q := 1) _ _ (by decide), up_s, ui_s]
    have e : eff_X4_set 2 100 i (ans_X4_get 2 100 (i + x2) s) s = ur (up σ 1 4 (σ 1 4 - x2)) 3 (fun j => if x1 ≤ j ∧ j < i + 1 then σ 3 (j + x2) else σ 3 j) := by
      unfold eff_X4_set ans_X4_get
      rw [if_pos (by omega), if_pos (by omega), hs, up_ur, ur_s]
      refine ur_congr (fun j => ?_)
      unfold ui
      dsimp only
      by_cases hj : j = i
      · subst hj
        rw [if_pos rfl, if_neg (by omega), if_pos (by omega)]
      · rw [if_neg hj]
        split <;> split <;> first | rfl | (exfalso; omega)
    obtain ⟨n, hn⟩ := ih (i + 1) _ (by omega) (by omega) e
    refine ⟨n + 1, ⟨by omega, by omega⟩, ⟨by omega, by omega⟩, fun h => absurd h (by omega), fun _ => ⟨⟨by omega, by omega⟩, fun r er => ⟨⟨by omega, by omega⟩, fun s9 e9 => ?_⟩⟩⟩
    rw [e9, er]
    exact hn
theorem v_X5_removeBytes (x1 x2 : Int) (σ : St) (hp : pre_X5_removeBytes x1 x2 σ) : V_X5_removeBytes x1 x2 σ (post_X5_removeBytes x1 x2 σ) := by
  obtain ⟨p0, p1, p2, p3⟩ := id hp
  intro s1 e1
  refine l_X5_removeBytes x1 x2 σ hp (post_X5_removeBytes x1 x2 σ) rfl (σ 1 4 - x2 - x1).toNat x1 s1 (by omega) (by omega) ?_
  rw [e1]
  refine (ur_id (fun j => ?_)).symm
  rw [if_neg (by omega), up_n _ _ _ (show 3 ≠ 1 by decide)]
theorem l_X5_setPattern (x1 x3 : Int) (σ : St) (hp : pre_X5_setPattern x1 x3 σ) (Q : St → Prop) (hQ : Q (eff_X5_setPattern x1 x3 σ)) : ∀ (d : Nat) (i : Int) (s : St), 0 ≤ i → i + d = x3 → s = ur (up σ 5 x1 x3) 7 (fun j => if x1 * 8 ≤ j ∧ j < x1 * 8 + i then σ 49 (j - x1 * 8) else σ 7 j) → ∃ n, L_X5_setPattern_12 Q x1 x3 n i s := by
  obtain ⟨p0, p1, p2, p3⟩ := hp
  intro d
  induction d with
  | zero =>
    intro i s h0 hi hs
    refine ⟨1, ⟨by omega, by omega⟩, ⟨by omega, by omega⟩, fun _ => ?_, fun h => absurd (by omega) h⟩
    rw [hs, show i = x3 by omega]
    exact hQ
  | succ d ih =>
    intro i s h0 hi hs
    have e : eff_X4_set 6 48 (x1 * 8 + i) (ans_X4_get 48 8 i s) s = ur (up σ 5 x1 x3) 7 (fun j => if x1 * 8 ≤ j ∧ j < x1 * 8 + (i + 1) then σ 49 (j - x1 * 8) else σ 7 j) := by
      unfold eff_X4_set ans_X4_get
      rw [if_pos (by omega), if_pos (by omega), hs, up_ur, ur_n (q := 48 + 1) _ _ (by decide), up_n (q := 48 + 1) _ _ _ (by decide)]
      refine ur_congr (fun j => ?_)
      unfold ui
      dsimp only
      by_cases hj : j = x1 * 8 + i
      · subst hj
        rw [if_pos rfl, if_pos (by omega), show x1 * 8 + i - x1 * 8 = i by omega]
      · rw [if_neg hj]
        split <;> split <;> first | rfl | (exfalso; omega)
    obtain ⟨n, hn⟩ := ih (i + 1) _ (by omega) (by omega) e
    refine ⟨n + 1, ⟨by omega, by omega⟩, ⟨by omega, by omega⟩, fun h => absurd h (by omega), fun _ => ⟨⟨by omega, by omega⟩, fun r er => ⟨⟨by omega, by omega⟩, fun s9 e9 => ?_⟩⟩⟩
    rw [e9, er]
    exact hn
theorem v_X5_setPattern (x1 x3 : Int) (σ : St) (hp : pre_X5_setPattern x1 x3 σ) : V_X5_setPattern x1 x3 σ (post_X5_setPattern x1 x3 σ) := by
  obtain ⟨p0, p1, p2, p3⟩ := id hp
  refine ⟨⟨by omega, by omega⟩, fun s1 e1 => ?_⟩
  refine l_X5_setPattern x1 x3 σ hp (post_X5_setPattern x1 x3 σ) rfl x3.toNat 0 s1 (by omega) (by omega) ?_
  rw [e1]
  unfold eff_X4_set
  rw [if_pos (by omega)]
  refine (ur_id (fun j => ?_)).symm
  rw [if_neg (by omega), up_n _ _ _ (show 7 ≠ 4 + 1 by decide)]
-- what copyFrom leaves as it was
theorem cpS_n (b b2 : Nat) (σ : St) {q : Nat} (h : q ≠ b) (h2 : q ≠ b + 2) (h4 : q ≠ b + 4) (h6 : q ≠ b + 6) (h8 : q ≠ b + 8) : eff_X5_copyFrom b b2 σ q = σ q := by
  unfold eff_X5_copyFrom eff_X4_copyFrom
  rw [ur_n _ _ (by omega), ur_n _ _ (by omega), ur_n _ _ (by omega), ur_n _ _ (by omega), up_n _ _ _ h]
theorem slot_st (x : Int) (σ : St) : isSt (ans_X1_slotAt x σ) ∧ 12 ≤ ans_X1_slotAt x σ ∧ ans_X1_slotAt x σ ≤ 39 := by
  unfold ans_X1_slotAt
  by_cases h : 0 ≤ x ∧ x < 4
  · rw [if_pos h]
    rcases (show x = 0 ∨ x = 1 ∨ x = 2 ∨ x = 3 by omega) with rfl | rfl | rfl | rfl
    · exact ⟨st_12, by decide, by decide⟩
    · exact ⟨st_21, by decide, by decide⟩
    · exact ⟨st_30, by decide, by decide⟩
    · exact ⟨st_39, by decide, by decide⟩
  · rw [if_neg h]
    exact ⟨st_12, by decide, by decide⟩
theorem v_X1_save (σ : St) (hp : pre_X1_save σ) : V_X1_save σ (post_X1_save σ) := by
  obtain ⟨p0, p1, p2, p3⟩ := hp
  refine ⟨⟨by omega, by omega⟩, fun q eq => ?_⟩
  obtain ⟨hs, h1, h2⟩ := slot_st (σ 10 1) σ
  rw [← eq] at hs h1 h2
  refine ⟨hs, Or.inr (by omega), fun s6 e6 => ?_⟩
  have f10 : s6 10 = σ 10 := by rw [e6]; exact cpS_n q 1 σ (by omega) (by omega) (by omega) (by omega) (by omega)
  have g : ∀ v : Int, up s6 10 1 v 10 2 = σ 10 2 := fun v => by rw [up_s, ui_n _ _ (by decide), f10]
  refine ⟨by rw [f10]; exact ⟨by omega, by omega⟩, fun h4 s10 e10 => ?_, fun h4 s10 e10 => ?_⟩
  · rw [f10] at h4
    refine ⟨by rw [e10, g]; exact ⟨by omega, by omega⟩, fun r er s13 e13 => ?_⟩
    show s13 = eff_X1_save σ
    rw [e13, er, e10, g]
    unfold eff_X1_save
    rw [if_neg (by omega), ← eq, ← e6]
  · rw [f10] at h4 e10
    refine ⟨by rw [e10, g]; exact ⟨by omega, by omega⟩, fun r er s13 e13 => ?_⟩
    show s13 = eff_X1_save σ
    rw [e13, er, e10, g]
    unfold eff_X1_save
    rw [if_pos (by omega), ← eq, ← e6]
theorem v_X6_prepareChange (σ : St) (hp : pre_X6_prepareChange σ) : V_X6_prepareChange σ (post_X6_prepareChange σ) := by
  refine ⟨hp, fun s2 e2 s4 e4 => ?_⟩
  show s4 = eff_X6_prepareChange σ
  rw [e4, e2]
  rfl
theorem v_X1_restore (σ : St) (hp : pre_X1_restore σ) : V_X1_restore σ (post_X1_restore σ) := by
  obtain ⟨p0, p1, p2, p3⟩ := hp
  have key : ∀ (v : Int), 0 ≤ v ∧ v ≤ 3 → v = (if 0 < σ 10 1 then σ 10 1 - 1 else 3) → ∀ s3 : St, s3 = up σ 10 1 v → (pre_X1_slotAt (s3 10 1) s3 ∧ (∀ q7 : Nat, q7 = ans_X1_slotAt (s3 10 1) s3 → (isSt q7 ∧ (pre_X5_copyFrom 1 q7 s3 ∧ (∀ s9 : St, s9 = eff_X5_copyFrom 1 q7 s3 → (inR ((s9 10 2) - 1) ∧ (∀ r12 : Int, r12 = max ((s9 10 2) - 1) 0 → (∀ s13 : St, s13 = up s9 10 2 r12 → post_X1_restore σ s13)))))))) := by
    intro v hv ev s3 e3
    have h1 : s3 10 1 = v := by rw [e3, up_s, ui_s]
    refine ⟨by rw [h1]; exact ⟨by omega, by omega⟩, fun q7 e7 => ?_⟩
    obtain ⟨hs, g1, g2⟩ := slot_st (s3 10 1) s3
    rw [← e7] at hs g1 g2
    refine ⟨hs, Or.inl (by omega), fun s9 e9 => ?_⟩
    have f10 : s9 10 = s3 10 := by rw [e9]; exact cpS_n 1 q7 s3 (by omega) (by omega) (by omega) (by omega) (by omega)
    have f2 : s9 10 2 = σ 10 2 := by rw [f10, e3, up_s, ui_n _ _ (by decide)]
    refine ⟨by rw [f2]; exact ⟨by omega, by omega⟩, fun r er s13 e13 => ?_⟩
    show s13 = eff_X1_restore σ
    rw [e13, er, f2, e9, e7, h1, e3, ev]
    rfl
  refine ⟨⟨by omega, by omega⟩, fun h => key 3 (by omega) (by rw [if_neg (by omega)]), fun h => key _ (by omega) (by rw [if_pos (by omega)])⟩
end
section
theorem save_n (σ : St) {q : Nat} (h : q ≠ 10) (h2 : q < 12 ∨ 48 ≤ q) : eff_X1_save σ q = σ q := by
  obtain ⟨-, h3, h4⟩ := slot_st (σ 10 1) σ
  unfold eff_X1_save
  rw [up_n _ _ _ h, up_n _ _ _ h, cpS_n _ _ _ (by omega) (by omega) (by omega) (by omega) (by omega)]
theorem pc_n (σ : St) {q : Nat} (h0 : q ≠ 0) (h : q ≠ 10) (h2 : q < 12 ∨ 48 ≤ q) : eff_X6_prepareChange σ q = σ q := by
  unfold eff_X6_prepareChange
  rw [up_n _ _ _ h0, save_n σ h h2]
theorem pc_0 (σ : St) {j : Int} (h : j ≠ 7) : eff_X6_prepareChange σ 0 j = σ 0 j := by
  unfold eff_X6_prepareChange
  rw [up_s, ui_n _ _ h, save_n σ (by decide) (by decide)]
theorem pc_1 (σ : St) : eff_X6_prepareChange σ 1 = σ 1 := pc_n σ (by decide) (by decide) (by decide)
theorem pc_06 (σ : St) : eff_X6_prepareChange σ 0 6 = σ 0 6 := pc_0 σ (by decide)
theorem ib14 (x1 x2 : Int) (σ : St) : eff_X5_insertByte x1 x2 σ 1 4 = σ 1 4 + 1 := by
  unfold eff_X5_insertByte
  rw [up_s, ui_s]
theorem rb14 (x1 x2 : Int) (σ : St) : eff_X5_removeBytes x1 x2 σ 1 4 = σ 1 4 - x2 := by
  unfold eff_X5_removeBytes
  rw [ur_n _ _ (by decide), up_s, ui_s]
theorem sp06 (x1 x2 : Int) (σ : St) : eff_X5_setPattern x1 x2 σ 0 = σ 0 := by
  unfold eff_X5_setPattern
  rw [ur_n _ _ (by decide), up_n _ _ _ (by decide)]
theorem rs102 (σ : St) (h : 1 ≤ σ 10 2) : eff_X1_restore σ 10 2 = σ 10 2 - 1 := by
  unfold eff_X1_restore
  rw [up_s, ui_s]
  omega
set_option maxHeartbeats 1000000 in
theorem v_X6_insert (x1 x2 : Int) (σ : St) (hp : pre_X6_insert x1 x2 σ) : V_X6_insert x1 x2 σ (post_X6_insert x1 x2 σ) := by
  simp only [pre_X6_insert, pre_X1_save] at hp
  unfold V_X6_insert
  try simp only [pre_X1_save, pre_X5_insertByte, pre_X5_textSize, ans_X5_textSize, pre_X6_fail, ans_X6_fail, pre_X6_isByte, ans_X6_isByte, pre_X6_prepareChange, forall_eq, b01, b01R, Nat.reduceAdd, pc_1, pc_06, ib14, rb14, sp06]
  repeat' first | exact trivial | refine And.intro ?_ ?_ | intro _
  all_goals try simp only [post_X6_insert, ans_X6_insert, eff_X6_insert, eff_X4_set, Nat.reduceAdd, pc_1, pc_06, ib14, rb14, sp06]
  all_goals repeat' split
  all_goals first | rfl | omega | (exfalso; omega)
set_option maxHeartbeats 1000000 in
theorem v_X6_replace (x1 x2 : Int) (σ : St) (hp : pre_X6_replace x1 x2 σ) : V_X6_replace x1 x2 σ (post_X6_replace x1 x2 σ) := by
  simp only [pre_X6_replace, pre_X1_save] at hp
  unfold V_X6_replace
  try simp only [pre_X1_save, pre_X5_setByte, pre_X5_textAt, ans_X5_textAt, pre_X6_fail, ans_X6_fail, pre_X6_isByte, ans_X6_isByte, pre_X6_isInText, ans_X6_isInText, pre_X6_prepareChange, forall_eq, b01, b01R, Nat.reduceAdd, pc_1, pc_06, ib14, rb14, sp06]
  repeat' first | exact trivial | refine And.intro ?_ ?_ | intro _
  all_goals try simp only [post_X6_replace, ans_X6_replace, eff_X6_replace, eff_X4_set, Nat.reduceAdd, pc_1, pc_06, ib14, rb14, sp06]
  all_goals repeat' split
  all_goals first | rfl | omega | (exfalso; omega)
set_option maxHeartbeats 1000000 in
theorem v_X6_delete (x1 x2 : Int) (σ : St) (hp : pre_X6_delete x1 x2 σ) : V_X6_delete x1 x2 σ (post_X6_delete x1 x2 σ) := by
  simp only [pre_X6_delete, pre_X1_save] at hp
  unfold V_X6_delete
  try simp only [pre_X1_save, pre_X5_removeBytes, pre_X5_textSize, ans_X5_textSize, pre_X6_fail, ans_X6_fail, pre_X6_isInText, ans_X6_isInText, pre_X6_prepareChange, forall_eq, b01, b01R, Nat.reduceAdd, pc_1, pc_06, ib14, rb14, sp06]
  repeat' first | exact trivial | refine And.intro ?_ ?_ | intro _
  all_goals try simp only [post_X6_delete, ans_X6_delete, eff_X6_delete, eff_X4_set, Nat.reduceAdd, pc_1, pc_06, ib14, rb14, sp06]
  all_goals repeat' split
  all_goals first | rfl | omega | (exfalso; omega)
set_option maxHeartbeats 1000000 in
theorem v_X6_define (x1 : Int) (σ : St) (hp : pre_X6_define x1 σ) : V_X6_define x1 σ (post_X6_define x1 σ) := by
  simp only [pre_X6_define, pre_X1_save] at hp
  unfold V_X6_define
  try simp only [pre_X1_save, pre_X4_get, ans_X4_get, pre_X5_setPattern, pre_X6_canStartPattern, ans_X6_canStartPattern, pre_X6_fail, ans_X6_fail, pre_X6_isRule, ans_X6_isRule, pre_X6_prepareChange, forall_eq, b01, b01R, Nat.reduceAdd, pc_1, pc_06, ib14, rb14, sp06]
  repeat' first | exact trivial | refine And.intro ?_ ?_ | intro _
  all_goals try simp only [post_X6_define, ans_X6_define, eff_X6_define, eff_X4_set, Nat.reduceAdd, pc_1, pc_06, ib14, rb14, sp06]
  all_goals repeat' split
  all_goals first | rfl | omega | (exfalso; omega)
set_option maxHeartbeats 1000000 in
theorem v_X6_undefine (x1 : Int) (σ : St) (hp : pre_X6_undefine x1 σ) : V_X6_undefine x1 σ (post_X6_undefine x1 σ) := by
  simp only [pre_X6_undefine, pre_X1_save] at hp
  unfold V_X6_undefine
  try simp only [pre_X1_save, pre_X5_patternSize, ans_X5_patternSize, pre_X5_setPattern, pre_X6_fail, ans_X6_fail, pre_X6_isRule, ans_X6_isRule, pre_X6_prepareChange, forall_eq, b01, b01R, Nat.reduceAdd, pc_1, pc_06, ib14, rb14, sp06]
  repeat' first | exact trivial | refine And.intro ?_ ?_ | intro _
  all_goals try simp only [post_X6_undefine, ans_X6_undefine, eff_X6_undefine, eff_X4_set, Nat.reduceAdd, pc_1, pc_06, ib14, rb14, sp06]
  all_goals repeat' split
  all_goals first | rfl | omega | (exfalso; omega)
set_option maxHeartbeats 1000000 in
theorem v_X6_setStop (x1 x2 : Int) (σ : St) (hp : pre_X6_setStop x1 x2 σ) : V_X6_setStop x1 x2 σ (post_X6_setStop x1 x2 σ) := by
  simp only [pre_X6_setStop, pre_X1_save] at hp
  unfold V_X6_setStop
  try simp only [pre_X1_save, pre_X5_putStop, pre_X5_stopOf, ans_X5_stopOf, pre_X6_fail, ans_X6_fail, pre_X6_isByte, ans_X6_isByte, pre_X6_isRule, ans_X6_isRule, pre_X6_prepareChange, forall_eq, b01, b01R, Nat.reduceAdd, pc_1, pc_06, ib14, rb14, sp06]
  repeat' first | exact trivial | refine And.intro ?_ ?_ | intro _
  all_goals try simp only [post_X6_setStop, ans_X6_setStop, eff_X6_setStop, eff_X4_set, Nat.reduceAdd, pc_1, pc_06, ib14, rb14, sp06]
  all_goals repeat' split
  all_goals first | rfl | omega | (exfalso; omega)
set_option maxHeartbeats 1000000 in
theorem v_X6_undo (σ : St) (hp : pre_X6_undo σ) : V_X6_undo σ (post_X6_undo σ) := by
  simp only [pre_X6_undo, pre_X1_save] at hp
  have h7 : ¬ σ 10 2 = 0 → up (eff_X1_restore σ) 0 7 1 10 2 = σ 10 2 - 1 := fun h => by rw [up_n _ _ _ (by decide)]; exact rs102 σ (by omega)
  unfold V_X6_undo
  try simp only [pre_X1_restore, pre_X1_save, pre_X1_savedCount, ans_X1_savedCount, pre_X1_slotAt, ans_X1_slotAt, pre_X5_copyFrom, pre_X6_fail, ans_X6_fail, forall_eq, b01, b01R, Nat.reduceAdd, pc_1, pc_06, ib14, rb14, sp06]
  repeat' first | exact trivial | refine And.intro ?_ ?_ | intro _
  all_goals try simp only [post_X6_undo, ans_X6_undo, eff_X6_undo, eff_X4_set, Nat.reduceAdd, pc_1, pc_06, ib14, rb14, sp06]
  all_goals repeat' split
  all_goals first | rfl | omega | (exfalso; omega) | exact (h7 (by omega))
end
section
theorem sv7_n (σ : St) {q : Nat} (h : q ≠ 80) (h2 : q ≠ 82) : eff_X7_save σ q = σ q := by
  unfold eff_X7_save
  rw [up_n _ _ _ h, ur_n _ _ h2]
theorem sv7_80 (σ : St) {j : Int} (h : j ≠ 2) : eff_X7_save σ 80 j = σ 80 j := by
  unfold eff_X7_save
  rw [up_s, ui_n _ _ h, ur_n _ _ (by decide)]
theorem sv7_81 (σ : St) : eff_X7_save σ 81 = σ 81 := sv7_n σ (by decide) (by decide)
theorem sv7_83 (σ : St) : eff_X7_save σ 83 = σ 83 := sv7_n σ (by decide) (by decide)
theorem sv7_804 (σ : St) : eff_X7_save σ 80 4 = σ 80 4 := sv7_80 σ (by decide)
set_option maxHeartbeats 1000000 in
theorem v_X7_in (x0 x1 x2 : Int) (σ : St) (hp : pre_X7_in x0 x1 x2 σ) : V_X7_in x0 x1 x2 σ (post_X7_in x0 x1 x2 σ) := by
  simp only [pre_X7_in] at hp
  unfold V_X7_in
  try simp only [forall_eq, b01, b01R, Nat.reduceAdd, sv7_81, sv7_83, sv7_804]
  repeat' first | exact trivial | refine And.intro ?_ ?_ | intro _
  all_goals try simp only [post_X7_in, ans_X7_in, eff_X7_fail, Nat.reduceAdd, sv7_81, sv7_83, sv7_804]
  all_goals repeat' split
  all_goals first | rfl | omega | (exfalso; omega)
set_option maxHeartbeats 1000000 in
theorem v_X7_fail (x1 : Int) (σ : St) (hp : pre_X7_fail x1 σ) : V_X7_fail x1 σ (post_X7_fail x1 σ) := by
  simp only [pre_X7_fail] at hp
  unfold V_X7_fail
  try simp only [forall_eq, b01, b01R, Nat.reduceAdd, sv7_81, sv7_83, sv7_804]
  repeat' first | exact trivial | refine And.intro ?_ ?_ | intro _
  all_goals try simp only [post_X7_fail, ans_X7_fail, eff_X7_fail, eff_X7_fail, Nat.reduceAdd, sv7_81, sv7_83, sv7_804]
  all_goals repeat' split
  all_goals first | rfl | omega | (exfalso; omega)
set_option maxHeartbeats 1000000 in
theorem v_X7_isByte (x0 : Int) (σ : St) (hp : pre_X7_isByte x0 σ) : V_X7_isByte x0 σ (post_X7_isByte x0 σ) := by
  simp only [pre_X7_isByte] at hp
  unfold V_X7_isByte
  try simp only [pre_X7_in, ans_X7_in, forall_eq, b01, b01R, Nat.reduceAdd, sv7_81, sv7_83, sv7_804]
  repeat' first | exact trivial | refine And.intro ?_ ?_ | intro _
  all_goals try simp only [post_X7_isByte, ans_X7_isByte, eff_X7_fail, Nat.reduceAdd, sv7_81, sv7_83, sv7_804]
  all_goals repeat' split
  all_goals first | rfl | omega | (exfalso; omega)
set_option maxHeartbeats 1000000 in
theorem v_X7_isPosition (x1 : Int) (σ : St) (hp : pre_X7_isPosition x1 σ) : V_X7_isPosition x1 σ (post_X7_isPosition x1 σ) := by
  simp only [pre_X7_isPosition] at hp
  unfold V_X7_isPosition
  try simp only [pre_X7_in, ans_X7_in, forall_eq, b01, b01R, Nat.reduceAdd, sv7_81, sv7_83, sv7_804]
  repeat' first | exact trivial | refine And.intro ?_ ?_ | intro _
  all_goals try simp only [post_X7_isPosition, ans_X7_isPosition, eff_X7_fail, Nat.reduceAdd, sv7_81, sv7_83, sv7_804]
  all_goals repeat' split
  all_goals first | rfl | omega | (exfalso; omega)
set_option maxHeartbeats 1000000 in
theorem v_X7_replace (x1 x2 : Int) (σ : St) (hp : pre_X7_replace x1 x2 σ) : V_X7_replace x1 x2 σ (post_X7_replace x1 x2 σ) := by
  simp only [pre_X7_replace] at hp
  unfold V_X7_replace
  try simp only [pre_X7_fail, ans_X7_fail, pre_X7_isByte, ans_X7_isByte, pre_X7_isPosition, ans_X7_isPosition, pre_X7_save, forall_eq, b01, b01R, Nat.reduceAdd, sv7_81, sv7_83, sv7_804]
  repeat' first | exact trivial | refine And.intro ?_ ?_ | intro _
  all_goals try simp only [post_X7_replace, ans_X7_replace, eff_X7_replace, eff_X7_fail, Nat.reduceAdd, sv7_81, sv7_83, sv7_804]
  all_goals repeat' split
  all_goals first | rfl | omega | (exfalso; omega)
set_option maxHeartbeats 1000000 in
theorem v_X7_length (σ : St) (hp : pre_X7_length σ) : V_X7_length σ (post_X7_length σ) := by
  simp only [pre_X7_length] at hp
  unfold V_X7_length
  try simp only [forall_eq, b01, b01R, Nat.reduceAdd, sv7_81, sv7_83, sv7_804]
  repeat' first | exact trivial | refine And.intro ?_ ?_ | intro _
  all_goals try simp only [post_X7_length, ans_X7_length, eff_X7_fail, Nat.reduceAdd, sv7_81, sv7_83, sv7_804]
  all_goals repeat' split
  all_goals first | rfl | omega | (exfalso; omega)
set_option maxHeartbeats 1000000 in
theorem v_X7_byteAt (x1 : Int) (σ : St) (hp : pre_X7_byteAt x1 σ) : V_X7_byteAt x1 σ (post_X7_byteAt x1 σ) := by
  simp only [pre_X7_byteAt] at hp
  unfold V_X7_byteAt
  try simp only [pre_X7_fail, ans_X7_fail, pre_X7_isPosition, ans_X7_isPosition, forall_eq, b01, b01R, Nat.reduceAdd, sv7_81, sv7_83, sv7_804]
  repeat' first | exact trivial | refine And.intro ?_ ?_ | intro _
  all_goals try simp only [post_X7_byteAt, ans_X7_byteAt, eff_X7_byteAt, eff_X7_fail, Nat.reduceAdd, sv7_81, sv7_83, sv7_804]
  all_goals repeat' split
  all_goals first | rfl | omega | (exfalso; omega)
set_option maxHeartbeats 1000000 in
theorem v_X7_isRule (x0 : Int) (σ : St) (hp : pre_X7_isRule x0 σ) : V_X7_isRule x0 σ (post_X7_isRule x0 σ) := by
  simp only [pre_X7_isRule] at hp
  unfold V_X7_isRule
  try simp only [pre_X7_in, ans_X7_in, forall_eq, b01, b01R, Nat.reduceAdd, sv7_81, sv7_83, sv7_804]
  repeat' first | exact trivial | refine And.intro ?_ ?_ | intro _
  all_goals try simp only [post_X7_isRule, ans_X7_isRule, eff_X7_fail, Nat.reduceAdd, sv7_81, sv7_83, sv7_804]
  all_goals repeat' split
  all_goals first | rfl | omega | (exfalso; omega)
set_option maxHeartbeats 1000000 in
theorem v_X7_append (x1 : Int) (σ : St) (hp : pre_X7_append x1 σ) : V_X7_append x1 σ (post_X7_append x1 σ) := by
  simp only [pre_X7_append] at hp
  unfold V_X7_append
  try simp only [pre_X7_fail, ans_X7_fail, pre_X7_isByte, ans_X7_isByte, forall_eq, b01, b01R, Nat.reduceAdd, sv7_81, sv7_83, sv7_804]
  repeat' first | exact trivial | refine And.intro ?_ ?_ | intro _
  all_goals try simp only [post_X7_append, ans_X7_append, eff_X7_append, eff_X7_fail, Nat.reduceAdd, sv7_81, sv7_83, sv7_804]
  all_goals repeat' split
  all_goals first | rfl | omega | (exfalso; omega)
set_option maxHeartbeats 1000000 in
theorem v_X7_clearPattern (σ : St) (hp : pre_X7_clearPattern σ) : V_X7_clearPattern σ (post_X7_clearPattern σ) := by
  simp only [pre_X7_clearPattern] at hp
  unfold V_X7_clearPattern
  try simp only [forall_eq, b01, b01R, Nat.reduceAdd, sv7_81, sv7_83, sv7_804]
  repeat' first | exact trivial | refine And.intro ?_ ?_ | intro _
  all_goals try simp only [post_X7_clearPattern, ans_X7_clearPattern, eff_X7_clearPattern, eff_X7_fail, Nat.reduceAdd, sv7_81, sv7_83, sv7_804]
  all_goals repeat' split
  all_goals first | rfl | omega | (exfalso; omega)
set_option maxHeartbeats 1000000 in
theorem v_X7_isReference (x0 : Int) (σ : St) (hp : pre_X7_isReference x0 σ) : V_X7_isReference x0 σ (post_X7_isReference x0 σ) := by
  simp only [pre_X7_isReference] at hp
  unfold V_X7_isReference
  try simp only [pre_X7_in, ans_X7_in, forall_eq, b01, b01R, Nat.reduceAdd, sv7_81, sv7_83, sv7_804]
  repeat' first | exact trivial | refine And.intro ?_ ?_ | intro _
  all_goals try simp only [post_X7_isReference, ans_X7_isReference, eff_X7_fail, Nat.reduceAdd, sv7_81, sv7_83, sv7_804]
  all_goals repeat' split
  all_goals first | rfl | omega | (exfalso; omega)
set_option maxHeartbeats 1000000 in
theorem v_X7_undefine (x1 : Int) (σ : St) (hp : pre_X7_undefine x1 σ) : V_X7_undefine x1 σ (post_X7_undefine x1 σ) := by
  simp only [pre_X7_undefine] at hp
  unfold V_X7_undefine
  try simp only [pre_X7_fail, ans_X7_fail, pre_X7_isRule, ans_X7_isRule, pre_X7_save, forall_eq, b01, b01R, Nat.reduceAdd, sv7_81, sv7_83, sv7_804]
  repeat' first | exact trivial | refine And.intro ?_ ?_ | intro _
  all_goals try simp only [post_X7_undefine, ans_X7_undefine, eff_X7_undefine, eff_X7_fail, Nat.reduceAdd, sv7_81, sv7_83, sv7_804]
  all_goals repeat' split
  all_goals first | rfl | omega | (exfalso; omega)
set_option maxHeartbeats 1000000 in
theorem v_X7_setStop (x1 x2 : Int) (σ : St) (hp : pre_X7_setStop x1 x2 σ) : V_X7_setStop x1 x2 σ (post_X7_setStop x1 x2 σ) := by
  simp only [pre_X7_setStop] at hp
  unfold V_X7_setStop
  try simp only [pre_X7_fail, ans_X7_fail, pre_X7_isByte, ans_X7_isByte, pre_X7_isRule, ans_X7_isRule, pre_X7_save, forall_eq, b01, b01R, Nat.reduceAdd, sv7_81, sv7_83, sv7_804]
  repeat' first | exact trivial | refine And.intro ?_ ?_ | intro _
  all_goals try simp only [post_X7_setStop, ans_X7_setStop, eff_X7_setStop, eff_X7_fail, Nat.reduceAdd, sv7_81, sv7_83, sv7_804]
  all_goals repeat' split
  all_goals first | rfl | omega | (exfalso; omega)
set_option maxHeartbeats 1000000 in
theorem v_X7_elementOf (x1 x2 : Int) (σ : St) (hp : pre_X7_elementOf x1 x2 σ) : V_X7_elementOf x1 x2 σ (post_X7_elementOf x1 x2 σ) := by
  simp only [pre_X7_elementOf] at hp
  unfold V_X7_elementOf
  try simp only [forall_eq, b01, b01R, Nat.reduceAdd, sv7_81, sv7_83, sv7_804]
  repeat' first | exact trivial | refine And.intro ?_ ?_ | intro _
  all_goals try simp only [post_X7_elementOf, ans_X7_elementOf, eff_X7_fail, Nat.reduceAdd, sv7_81, sv7_83, sv7_804]
  all_goals repeat' split
  all_goals first | rfl | omega | (exfalso; omega)
set_option maxHeartbeats 1000000 in
theorem v_X7_element (x1 x2 : Int) (σ : St) (hp : pre_X7_element x1 x2 σ) : V_X7_element x1 x2 σ (post_X7_element x1 x2 σ) := by
  simp only [pre_X7_element] at hp
  have h5 := hp.2.2 x1
  unfold V_X7_element
  try simp only [pre_X7_elementOf, ans_X7_elementOf, pre_X7_fail, ans_X7_fail, pre_X7_isRule, ans_X7_isRule, forall_eq, b01, b01R, Nat.reduceAdd, sv7_81, sv7_83, sv7_804]
  repeat' first | exact trivial | refine And.intro ?_ ?_ | intro _
  all_goals try simp only [post_X7_element, ans_X7_element, eff_X7_element, eff_X7_fail, Nat.reduceAdd, sv7_81, sv7_83, sv7_804]
  all_goals repeat' split
  all_goals first | rfl | omega | (exfalso; omega)
set_option maxHeartbeats 1000000 in
theorem v_X7_cell (x0 x1 x2 : Int) (σ : St) (hp : pre_X7_cell x0 x1 x2 σ) : V_X7_cell x0 x1 x2 σ (post_X7_cell x0 x1 x2 σ) := by
  simp only [pre_X7_cell] at hp
  unfold V_X7_cell
  try simp only [forall_eq, b01, b01R, Nat.reduceAdd, sv7_81, sv7_83, sv7_804]
  repeat' first | exact trivial | refine And.intro ?_ ?_ | intro _
  all_goals try simp only [post_X7_cell, ans_X7_cell, eff_X7_fail, Nat.reduceAdd, sv7_81, sv7_83, sv7_804]
  all_goals repeat' split
  all_goals first | rfl | omega | (exfalso; omega)
set_option maxHeartbeats 1000000 in
theorem v_X7_errorCount (x1 : Int) (σ : St) (hp : pre_X7_errorCount x1 σ) : V_X7_errorCount x1 σ (post_X7_errorCount x1 σ) := by
  simp only [pre_X7_errorCount] at hp
  unfold V_X7_errorCount
  try simp only [pre_X7_fail, ans_X7_fail, pre_X7_in, ans_X7_in, forall_eq, b01, b01R, Nat.reduceAdd, sv7_81, sv7_83, sv7_804]
  repeat' first | exact trivial | refine And.intro ?_ ?_ | intro _
  all_goals try simp only [post_X7_errorCount, ans_X7_errorCount, eff_X7_errorCount, eff_X7_fail, Nat.reduceAdd, sv7_81, sv7_83, sv7_804]
  all_goals repeat' split
  all_goals first | rfl | omega | (exfalso; omega)
set_option maxHeartbeats 1000000 in
theorem v_X7_mix (x1 : Int) (σ : St) (hp : pre_X7_mix x1 σ) : V_X7_mix x1 σ (post_X7_mix x1 σ) := by
  simp only [pre_X7_mix] at hp
  unfold V_X7_mix
  try simp only [forall_eq, b01, b01R, Nat.reduceAdd, sv7_81, sv7_83, sv7_804]
  repeat' first | exact trivial | refine And.intro ?_ ?_ | intro _
  all_goals try simp only [post_X7_mix, eff_X7_mix, eff_X7_fail, Nat.reduceAdd, sv7_81, sv7_83, sv7_804]
  all_goals repeat' split
  all_goals first | rfl | omega | (exfalso; omega)
end
section
theorem st_ext {σ τ : St} (h : ∀ q, σ q = τ q) : σ = τ := funext h
theorem l_X7_save_51 (Q : St → Prop) (τ : St) (d : Int) (hd0 : 0 ≤ d) (hd : d ≤ 3) (hτ : τ 80 2 = d) (hQ : Q (up (ur τ 82 (fun j => if 161 * d ≤ j ∧ j < 161 * d + 161 then τ 81 (j - 161 * d) else τ 82 j)) 80 2 (d + 1))) : ∀ (m : Nat) (i : Int) (s : St), 0 ≤ i → i + m = 161 → s = ur τ 82 (fun j => if 161 * d ≤ j ∧ j < 161 * d + i then τ 81 (j - 161 * d) else τ 82 j) → ∃ n, L_X7_save_51 Q n i s := by
  intro m
  induction m with
  | zero =>
    intro i s h0 hi hs
    have e80 : s 80 2 = d := by rw [hs, ur_n _ _ (by decide)]; exact hτ
    refine ⟨1, ⟨by omega, by omega⟩, fun _ s5 e5 => ?_, fun h => absurd (by omega) h⟩
    rw [e5, e80, hs, show i = 161 by omega]
    exact hQ
  | succ m ih =>
    intro i s h0 hi hs
    have e80 : s 80 2 = d := by rw [hs, ur_n _ _ (by decide)]; exact hτ
    have e : up s 82 (161 * d + i) (s 81 i) = ur τ 82 (fun j => if 161 * d ≤ j ∧ j < 161 * d + (i + 1) then τ 81 (j - 161 * d) else τ 82 j) := by
      rw [hs, up_ur, ur_n (q := 81) _ _ (by decide)]
      refine ur_congr (fun j => ?_)
      unfold ui
      dsimp only
      by_cases hj : j = 161 * d + i
      · subst hj
        rw [if_pos rfl, if_pos (by omega), show 161 * d + i - 161 * d = i by omega]
      · rw [if_neg hj]
        split <;> split <;> first | rfl | (exfalso; omega)
    obtain ⟨n, hn⟩ := ih (i + 1) _ (by omega) (by omega) e
    refine ⟨n + 1, ⟨by omega, by omega⟩, fun h => absurd h (by omega), fun _ => ⟨⟨by omega, by omega⟩, ?_⟩⟩
    rw [e80]
    exact ⟨⟨by omega, by omega⟩, fun s9 e9 => by rw [e9]; exact hn⟩
theorem l_X7_save_10 (Q : St → Prop) (σ : St) (hd : σ 80 2 = 4) (hQ : Q (eff_X7_save σ)) : ∀ (m : Nat) (i : Int) (s : St), 0 ≤ i → i + m = 483 → s = ur σ 82 (fun j => if 0 ≤ j ∧ j < i then σ 82 (j + 161) else σ 82 j) → ∃ n, L_X7_save_10 Q n i s := by
  intro m
  induction m with
  | zero =>
    intro i s h0 hi hs
    refine ⟨1, ⟨by omega, by omega⟩, fun _ s5 e5 => ?_, fun h => absurd (by omega) h⟩
    have e80 : s 80 2 = 4 := by rw [hs, ur_n _ _ (by decide)]; exact hd
    have e3 : s5 80 2 = 3 := by rw [e5, up_s, ui_s, e80]; rfl
    have e82 : ∀ j, s5 82 j = if 0 ≤ j ∧ j < 483 then σ 82 (j + 161) else σ 82 j := fun j => by
      rw [e5, up_n _ _ _ (by decide), hs, ur_s, show i = 483 by omega]
    have e81 : s5 81 = σ 81 := by rw [e5, up_n _ _ _ (by decide), hs, ur_n _ _ (by decide)]
    refine l_X7_save_51 Q s5 3 (by omega) (by omega) e3 ?_ 161 0 s5 (by omega) (by omega) ?_
    · have e : up (ur s5 82 (fun j => if 161 * 3 ≤ j ∧ j < 161 * 3 + 161 then s5 81 (j - 161 * 3) else s5 82 j)) 80 2 (3 + 1) = eff_X7_save σ := by
        unfold eff_X7_save
        rw [if_pos hd, e81]
        refine st_ext (fun q => ?_)
        by_cases h80 : q = 80
        · subst h80
          rw [up_s, up_s, ur_n _ _ (by decide), ur_n _ _ (by decide), e5, up_s, hs, ur_n _ _ (by decide)]
          funext j
          unfold ui
          split <;> rfl
        · rw [up_n _ _ _ h80, up_n _ _ _ h80]
          by_cases h82 : q = 82
          · subst h82
            rw [ur_s, ur_s]
            funext j
            rw [e82]
            split
            · rfl
            · split <;> split <;> first | rfl | (exfalso; omega)
          · rw [ur_n _ _ h82, ur_n _ _ h82, e5, up_n _ _ _ h80, hs, ur_n _ _ h82]
      rw [e]
      exact hQ
    · refine (ur_id (fun j => ?_)).symm
      rw [if_neg (by omega)]
  | succ m ih =>
    intro i s h0 hi hs
    have e : up s 82 i (s 82 (i + 161)) = ur σ 82 (fun j => if 0 ≤ j ∧ j < i + 1 then σ 82 (j + 161) else σ 82 j) := by
      rw [hs, up_ur, ur_s]
      refine ur_congr (fun j => ?_)
      unfold ui
      dsimp only
      by_cases hj : j = i
      · subst hj
        rw [if_pos rfl, if_neg (by omega), if_pos (by omega)]
      · rw [if_neg hj]
        split <;> split <;> first | rfl | (exfalso; omega)
    obtain ⟨n, hn⟩ := ih (i + 1) _ (by omega) (by omega) e
    exact ⟨n + 1, ⟨by omega, by omega⟩, fun h => absurd h (by omega), fun _ => ⟨⟨by omega, by omega⟩, ⟨by omega, by omega⟩, fun s9 e9 => by rw [e9]; exact hn⟩⟩
theorem v_X7_save (σ : St) (hp : pre_X7_save σ) : V_X7_save σ (post_X7_save σ) := by
  obtain ⟨p0, p1⟩ := hp
  refine ⟨⟨by omega, by omega⟩, fun h => ?_, fun h => ?_⟩
  · refine l_X7_save_51 (post_X7_save σ) σ (σ 80 2) p0 (by omega) rfl ?_ 161 0 σ (by omega) (by omega) ?_
    · show _ = eff_X7_save σ
      unfold eff_X7_save
      rw [if_neg h]
      congr 1
      refine ur_congr (fun j => ?_)
      try dsimp only
      split
      · rfl
      · rw [if_neg (fun z => h z.1)]
    · refine (ur_id (fun j => ?_)).symm
      rw [if_neg (by omega)]
  · refine l_X7_save_10 (post_X7_save σ) σ h rfl 483 0 σ (by omega) (by omega) ?_
    refine (ur_id (fun j => ?_)).symm
    rw [if_neg (by omega)]
theorem l_X7_insert (x1 x2 : Int) (τ : St) (L : Int) (p0 : 0 ≤ x1) (p1 : x1 ≤ L) (p2 : L < 100) (hL : τ 81 0 = L) (Q : Int → St → Prop) (hQ : Q (L + 1) (ur τ 81 (fun j => if j = 0 then L + 1 else if j = 1 + x1 then x2 else if 1 + x1 < j ∧ j ≤ 1 + L then τ 81 (j - 1) else τ 81 j))) : ∀ (d : Nat) (i : Int) (s : St), i = x1 + d → i ≤ L → s = ur τ 81 (fun j => if 1 + i < j ∧ j ≤ 1 + L then τ 81 (j - 1) else τ 81 j) → ∃ n, L_X7_insert_57 Q x1 x2 n i s := by
  intro d
  induction d with
  | zero =>
    intro i s hi hl hs
    have hi : i = x1 := by omega
    refine ⟨1, ⟨by omega, by omega⟩, ⟨by omega, by omega⟩, fun _ => ⟨⟨by omega, by omega⟩, fun s5 e5 s7 e7 => ?_⟩, fun h => absurd (by omega) h⟩
    have h0 : s5 81 0 = L := by
      rw [e5, up_s, ui_n _ _ (by omega), hs, ur_s, if_neg (by omega), hL]
    have e : s7 = ur τ 81 (fun j => if j = 0 then L + 1 else if j = 1 + x1 then x2 else if 1 + x1 < j ∧ j ≤ 1 + L then τ 81 (j - 1) else τ 81 j) := by
      rw [e7, h0, e5, hs, up_ur, up_ur]
      refine ur_congr (fun j => ?_)
      unfold ui
      rw [hi]
    have h8 : s7 81 0 = L + 1 := by rw [e, ur_s, if_pos rfl]
    rw [h8, e]
    exact hQ
  | succ d ih =>
    intro i s hi hl hs
    have e : up s 81 (1 + i) (s 81 ((1 + i) - 1)) = ur τ 81 (fun j => if 1 + (i - 1) < j ∧ j ≤ 1 + L then τ 81 (j - 1) else τ 81 j) := by
      rw [hs, up_ur, ur_s]
      refine ur_congr (fun j => ?_)
      unfold ui
      dsimp only
      by_cases hj : j = 1 + i
      · subst hj
        rw [if_pos rfl, if_neg (by omega), if_pos (by omega)]
      · rw [if_neg hj]
        split <;> split <;> first | rfl | (exfalso; omega)
    obtain ⟨n, hn⟩ := ih (i - 1) _ (by omega) (by omega) e
    exact ⟨n + 1, ⟨by omega, by omega⟩, ⟨by omega, by omega⟩, fun h => absurd h (by omega), fun _ => ⟨⟨by omega, by omega⟩, ⟨by omega, by omega⟩, fun s9 e9 => by rw [e9]; exact hn⟩⟩
theorem v_X7_insert (x1 x2 : Int) (σ : St) (hp : pre_X7_insert x1 x2 σ) : V_X7_insert x1 x2 σ (post_X7_insert x1 x2 σ) := by
  simp only [pre_X7_insert] at hp
  have key : 0 ≤ x1 → x1 ≤ σ 81 0 → σ 81 0 < 100 → 32 ≤ x2 → x2 ≤ 126 → ∃ n_, L_X7_insert_57 (post_X7_insert x1 x2 σ) x1 x2 n_ (σ 81 0) (eff_X7_save σ) := by
    intro a b c d e
    refine l_X7_insert x1 x2 (eff_X7_save σ) (σ 81 0) a b c (by rw [sv7_81]) (post_X7_insert x1 x2 σ) ?_ (σ 81 0 - x1).toNat (σ 81 0) _ (by omega) (by omega) (ur_id (fun j => by rw [if_neg (by omega)])).symm
    simp only [post_X7_insert, ans_X7_insert, eff_X7_insert, sv7_81, sv7_83]
    repeat' split
    all_goals first | exact ⟨rfl, rfl⟩ | (exfalso; omega)
  unfold V_X7_insert
  simp only [pre_X7_in, ans_X7_in, pre_X7_fail, ans_X7_fail, pre_X7_isByte, ans_X7_isByte, pre_X7_save, forall_eq, b01, b01R, sv7_81]
  repeat' first | exact trivial | refine And.intro ?_ ?_ | intro _
  all_goals try (simp only [post_X7_insert, ans_X7_insert, eff_X7_insert])
  all_goals first
    | omega
    | exact key (by omega) (by omega) (by omega) (by omega) (by omega)
    | ((repeat' split) <;> first | rfl | omega | (exfalso; omega))
theorem l_X7_delete (x1 x2 : Int) (τ : St) (L : Int) (p0 : 0 ≤ x1) (p1 : 1 ≤ x2) (p2 : x1 + x2 ≤ L) (p3 : L ≤ 100) (hL : τ 81 0 = L) (Q : Int → St → Prop) (hQ : Q (L - x2) (ur τ 81 (fun j => if j = 0 then L - x2 else if 1 + x1 ≤ j ∧ j < 1 + L - x2 then τ 81 (j + x2) else τ 81 j))) : ∀ (d : Nat) (i : Int) (s : St), x1 ≤ i → i + d = L - x2 → s = ur τ 81 (fun j => if 1 + x1 ≤ j ∧ j < 1 + i then τ 81 (j + x2) else τ 81 j) → ∃ n, L_X7_delete_37 Q x2 n i s := by
  intro d
  induction d with
  | zero =>
    intro i s h0 hi hs
    have e0 : s 81 0 = L := by rw [hs, ur_s, if_neg (by omega), hL]
    refine ⟨1, ⟨by omega, by omega⟩, by rw [e0]; exact ⟨by omega, by omega⟩, fun _ s7 e7 => ?_, fun h => absurd (by rw [e0]; omega) h⟩
    have e : s7 = ur τ 81 (fun j => if j = 0 then L - x2 else if 1 + x1 ≤ j ∧ j < 1 + L - x2 then τ 81 (j + x2) else τ 81 j) := by
      rw [e7, e0, hs, up_ur]
      refine ur_congr (fun j => ?_)
      unfold ui
      rw [show (1 : Int) + i = 1 + L - x2 by omega]
    have h8 : s7 81 0 = L - x2 := by rw [e, ur_s, if_pos rfl]
    rw [h8, e]
    exact hQ
  | succ d ih =>
    intro i s h0 hi hs
    have e0 : s 81 0 = L := by rw [hs, ur_s, if_neg (by omega), hL]
    have e : up s 81 (1 + i) (s 81 ((1 + i) + x2)) = ur τ 81 (fun j => if 1 + x1 ≤ j ∧ j < 1 + (i + 1) then τ 81 (j + x2) else τ 81 j) := by
      rw [hs, up_ur, ur_s]
      refine ur_congr (fun j => ?_)
      unfold ui
      dsimp only
      by_cases hj : j = 1 + i
      · subst hj
        rw [if_pos rfl, if_neg (by omega), if_pos (by omega)]
      · rw [if_neg hj]
        split <;> split <;> first | rfl | (exfalso; omega)
    obtain ⟨n, hn⟩ := ih (i + 1) _ (by omega) (by omega) e
    exact ⟨n + 1, ⟨by omega, by omega⟩, by rw [e0]; exact ⟨by omega, by omega⟩, fun h => absurd h (by rw [e0]; omega), fun _ => ⟨⟨by omega, by omega⟩, ⟨by omega, by omega⟩, fun s9 e9 => by rw [e9]; exact hn⟩⟩
theorem v_X7_delete (x1 x2 : Int) (σ : St) (hp : pre_X7_delete x1 x2 σ) : V_X7_delete x1 x2 σ (post_X7_delete x1 x2 σ) := by
  simp only [pre_X7_delete] at hp
  have key : 0 ≤ x1 → x1 < σ 81 0 → 1 ≤ x2 → x1 + x2 ≤ σ 81 0 → ∃ n_, L_X7_delete_37 (post_X7_delete x1 x2 σ) x2 n_ x1 (eff_X7_save σ) := by
    intro a b c d
    refine l_X7_delete x1 x2 (eff_X7_save σ) (σ 81 0) a c d (by omega) (by rw [sv7_81]) (post_X7_delete x1 x2 σ) ?_ (σ 81 0 - x2 - x1).toNat x1 _ (by omega) (by omega) (ur_id (fun j => by rw [if_neg (by omega)])).symm
    simp only [post_X7_delete, ans_X7_delete, eff_X7_delete, sv7_81, sv7_83]
    repeat' split
    all_goals first | exact ⟨rfl, rfl⟩ | (exfalso; omega)
  unfold V_X7_delete
  simp only [pre_X7_in, ans_X7_in, pre_X7_fail, ans_X7_fail, pre_X7_isPosition, ans_X7_isPosition, pre_X7_save, forall_eq, b01, b01R, sv7_81]
  repeat' first | exact trivial | refine And.intro ?_ ?_ | intro _
  all_goals try (simp only [post_X7_delete, ans_X7_delete, eff_X7_delete])
  all_goals first
    | omega
    | exact key (by omega) (by omega) (by omega) (by omega)
    | ((repeat' split) <;> first | rfl | omega | (exfalso; omega))
theorem l_X7_define (x1 : Int) (τ : St) (L : Int) (p0 : 0 ≤ x1) (p1 : x1 < 6) (p2 : 0 ≤ L) (p3 : L ≤ 8) (hL : τ 80 4 = L) (Q : Int → St → Prop) (hQ : Q L (ur τ 81 (fun j => if j = 101 + x1 then L else if 107 + 8 * x1 ≤ j ∧ j < 107 + 8 * x1 + L then τ 83 (j - (107 + 8 * x1)) else τ 81 j))) : ∀ (d : Nat) (i : Int) (s : St), 0 ≤ i → i + d = L → s = ur τ 81 (fun j => if 107 + 8 * x1 ≤ j ∧ j < 107 + 8 * x1 + i then τ 83 (j - (107 + 8 * x1)) else τ 81 j) → ∃ n, L_X7_define_57 Q x1 n i s := by
  intro d
  induction d with
  | zero =>
    intro i s h0 hi hs
    have e0 : s 80 4 = L := by rw [hs, ur_n _ _ (by decide), hL]
    refine ⟨1, ⟨by omega, by omega⟩, by rw [e0]; exact ⟨by omega, by omega⟩, fun _ => ⟨⟨by omega, by omega⟩, fun s7 e7 => ?_⟩, fun h => absurd (by rw [e0]; omega) h⟩
    have e : s7 = ur τ 81 (fun j => if j = 101 + x1 then L else if 107 + 8 * x1 ≤ j ∧ j < 107 + 8 * x1 + L then τ 83 (j - (107 + 8 * x1)) else τ 81 j) := by
      rw [e7, e0, hs, up_ur]
      refine ur_congr (fun j => ?_)
      unfold ui
      rw [show i = L by omega]
    have h8 : s7 80 4 = L := by rw [e, ur_n _ _ (by decide), hL]
    rw [h8, e]
    exact hQ
  | succ d ih =>
    intro i s h0 hi hs
    have e0 : s 80 4 = L := by rw [hs, ur_n _ _ (by decide), hL]
    have e : up s 81 ((107 + (8 * x1)) + i) (s 83 i) = ur τ 81 (fun j => if 107 + 8 * x1 ≤ j ∧ j < 107 + 8 * x1 + (i + 1) then τ 83 (j - (107 + 8 * x1)) else τ 81 j) := by
      rw [hs, up_ur, ur_n (q := 83) _ _ (by decide)]
      refine ur_congr (fun j => ?_)
      unfold ui
      dsimp only
      by_cases hj : j = (107 + (8 * x1)) + i
      · subst hj
        rw [if_pos rfl, if_pos (by omega), show 107 + 8 * x1 + i - (107 + 8 * x1) = i by omega]
      · rw [if_neg hj]
        split <;> split <;> first | rfl | (exfalso; omega)
    obtain ⟨n, hn⟩ := ih (i + 1) _ (by omega) (by omega) e
    exact ⟨n + 1, ⟨by omega, by omega⟩, by rw [e0]; exact ⟨by omega, by omega⟩, fun h => absurd h (by rw [e0]; omega), fun _ => ⟨⟨by omega, by omega⟩, ⟨by omega, by omega⟩, fun s9 e9 => by rw [e9]; exact hn⟩⟩
theorem v_X7_define (x1 : Int) (σ : St) (hp : pre_X7_define x1 σ) : V_X7_define x1 σ (post_X7_define x1 σ) := by
  simp only [pre_X7_define] at hp
  have key : 0 ≤ x1 → x1 < 6 → ¬ σ 80 4 = 0 → ¬ σ 83 0 = 126 → ¬ (65 ≤ σ 83 0 ∧ σ 83 0 ≤ 70) → ∃ n_, L_X7_define_57 (post_X7_define x1 σ) x1 n_ 0 (eff_X7_save σ) := by
    intro a b c d e
    refine l_X7_define x1 (eff_X7_save σ) (σ 80 4) a b (by omega) (by omega) (by rw [sv7_804]) (post_X7_define x1 σ) ?_ (σ 80 4).toNat 0 _ (by omega) (by omega) (ur_id (fun j => by rw [if_neg (by omega)])).symm
    simp only [post_X7_define, ans_X7_define, eff_X7_define, sv7_81, sv7_83]
    repeat' split
    all_goals first | exact ⟨rfl, rfl⟩ | (exfalso; omega)
  unfold V_X7_define
  simp only [pre_X7_isRule, ans_X7_isRule, pre_X7_isReference, ans_X7_isReference, pre_X7_fail, ans_X7_fail, pre_X7_save, forall_eq, b01, b01R]
  repeat' first | exact trivial | refine And.intro ?_ ?_ | intro _
  all_goals try (simp only [post_X7_define, ans_X7_define, eff_X7_define])
  all_goals first
    | omega
    | exact key (by omega) (by omega) (by omega) (by omega) (by omega)
    | ((repeat' split) <;> first | rfl | omega | (exfalso; omega))
theorem l_X7_undo (Q : Int → St → Prop) (τ : St) (d : Int) (hd0 : 0 ≤ d) (hd : d ≤ 3) (hτ : τ 80 2 = d) (hQ : Q d (ur τ 81 (fun j => if 0 ≤ j ∧ j < 161 then τ 82 (161 * d + j) else τ 81 j))) : ∀ (m : Nat) (i : Int) (s : St), 0 ≤ i → i + m = 161 → s = ur τ 81 (fun j => if 0 ≤ j ∧ j < i then τ 82 (161 * d + j) else τ 81 j) → ∃ n, L_X7_undo_26 Q n i s := by
  intro m
  induction m with
  | zero =>
    intro i s h0 hi hs
    have e80 : s 80 2 = d := by rw [hs, ur_n _ _ (by decide)]; exact hτ
    refine ⟨1, ⟨by omega, by omega⟩, fun _ => ?_, fun h => absurd (by omega) h⟩
    rw [e80, hs, show i = 161 by omega]
    exact hQ
  | succ m ih =>
    intro i s h0 hi hs
    have e80 : s 80 2 = d := by rw [hs, ur_n _ _ (by decide)]; exact hτ
    have e : up s 81 i (s 82 (161 * d + i)) = ur τ 81 (fun j => if 0 ≤ j ∧ j < i + 1 then τ 82 (161 * d + j) else τ 81 j) := by
      rw [hs, up_ur, ur_n (q := 82) _ _ (by decide)]
      refine ur_congr (fun j => ?_)
      unfold ui
      dsimp only
      by_cases hj : j = i
      · subst hj
        rw [if_pos rfl, if_pos (by omega)]
      · rw [if_neg hj]
        split <;> split <;> first | rfl | (exfalso; omega)
    obtain ⟨n, hn⟩ := ih (i + 1) _ (by omega) (by omega) e
    refine ⟨n + 1, ⟨by omega, by omega⟩, fun h => absurd h (by omega), fun _ => ?_⟩
    rw [e80]
    exact ⟨⟨by omega, by omega⟩, ⟨by omega, by omega⟩, fun s9 e9 => by rw [e9]; exact hn⟩
theorem v_X7_undo (σ : St) (hp : pre_X7_undo σ) : V_X7_undo σ (post_X7_undo σ) := by
  obtain ⟨p0, p1⟩ := hp
  refine ⟨⟨by omega, by omega⟩, fun h s3 e3 => ?_, fun h => ⟨⟨by omega, by omega⟩, fun r er s9 e9 => ?_⟩⟩
  · refine l_X7_undo (post_X7_undo σ) s3 (σ 80 2 - 1) (by omega) (by omega) (by rw [e3, up_s, ui_s]) ?_ 161 0 s3 (by omega) (by omega) (ur_id (fun j => by rw [if_neg (by omega)])).symm
    simp only [post_X7_undo, ans_X7_undo, eff_X7_undo, if_neg h]
    refine ⟨trivial, ?_⟩
    rw [e3, up_n (q := 82) _ _ _ (by decide), up_n (q := 81) _ _ _ (by decide)]
  · simp only [post_X7_undo, ans_X7_undo, eff_X7_undo, if_pos h]
    exact ⟨er, e9⟩
end
section
set_option maxHeartbeats 1000000 in
theorem v_X6_isDigit (x0 : Int) (σ : St) (hp : pre_X6_isDigit x0 σ) : V_X6_isDigit x0 σ (post_X6_isDigit x0 σ) := by
  simp only [pre_X6_isDigit, MB] at hp
  unfold V_X6_isDigit
  try simp only [forall_eq, b01, b01R, Nat.reduceAdd]
  repeat' first | exact trivial | refine And.intro ?_ ?_ | intro _
  all_goals try simp only [post_X6_isDigit, ans_X6_isDigit, eff_X4_set, Nat.reduceAdd]
  all_goals repeat' split
  all_goals first | rfl | omega | (exfalso; omega)
set_option maxHeartbeats 1000000 in
theorem v_X6_isLetter (x0 : Int) (σ : St) (hp : pre_X6_isLetter x0 σ) : V_X6_isLetter x0 σ (post_X6_isLetter x0 σ) := by
  simp only [pre_X6_isLetter, MB] at hp
  unfold V_X6_isLetter
  try simp only [forall_eq, b01, b01R, Nat.reduceAdd]
  repeat' first | exact trivial | refine And.intro ?_ ?_ | intro _
  all_goals try simp only [post_X6_isLetter, ans_X6_isLetter, eff_X4_set, Nat.reduceAdd]
  all_goals repeat' split
  all_goals first | rfl | omega | (exfalso; omega)
set_option maxHeartbeats 1000000 in
theorem v_X2_runEnd (k nn : Nat) (hik : isRow k nn) (x1 : Int) (σ : St) (hp : pre_X2_runEnd k nn x1 σ) : V_X2_runEnd k nn x1 σ (post_X2_runEnd k nn x1 σ) := by
  simp only [pre_X2_runEnd, MB] at hp
  have hlt := isRow_lt hik
  unfold V_X2_runEnd
  try simp only [pre_X4_get, ans_X4_get, forall_eq, b01, b01R, Nat.reduceAdd]
  repeat' first | exact trivial | refine And.intro ?_ ?_ | intro _
  all_goals try simp only [post_X2_runEnd, ans_X2_runEnd, eff_X4_set, Nat.reduceAdd]
  all_goals repeat' split
  all_goals first | rfl | omega | (exfalso; omega)
set_option maxHeartbeats 1000000 in
theorem v_X0_get (x1 x2 x3 : Int) (σ : St) (hp : pre_X0_get x1 x2 x3 σ) : V_X0_get x1 x2 x3 σ (post_X0_get x1 x2 x3 σ) := by
  simp only [pre_X0_get, MB] at hp
  unfold V_X0_get
  try simp only [tget, ct, forall_eq, b01, b01R, Nat.reduceAdd]
  repeat' first | exact trivial | refine And.intro ?_ ?_ | intro _
  all_goals try simp only [tget, ct, post_X0_get, ans_X0_get, eff_X4_set, Nat.reduceAdd]
  all_goals repeat' split
  all_goals first | rfl | omega | (exfalso; omega)
set_option maxHeartbeats 1000000 in
theorem v_X0_set (x1 x2 x3 x4 : Int) (σ : St) (hp : pre_X0_set x1 x2 x3 x4 σ) : V_X0_set x1 x2 x3 x4 σ (post_X0_set x1 x2 x3 x4 σ) := by
  simp only [pre_X0_set, MB] at hp
  unfold V_X0_set
  try simp only [forall_eq, b01, b01R, Nat.reduceAdd]
  repeat' first | exact trivial | refine And.intro ?_ ?_ | intro _
  all_goals try simp only [post_X0_set, eff_X0_set, eff_X4_set, Nat.reduceAdd]
  all_goals repeat' split
  all_goals first | rfl | omega | (exfalso; omega)
set_option maxHeartbeats 1000000 in
theorem v_X2_firstRule (x1 : Int) (σ : St) (hp : pre_X2_firstRule x1 σ) : V_X2_firstRule x1 σ (post_X2_firstRule x1 σ) := by
  simp only [pre_X2_firstRule, MB] at hp
  unfold V_X2_firstRule
  try simp only [pre_X4_get, ans_X4_get, forall_eq, b01, b01R, Nat.reduceAdd]
  repeat' first | exact trivial | refine And.intro ?_ ?_ | intro _
  all_goals try simp only [post_X2_firstRule, ans_X2_firstRule, eff_X4_set, Nat.reduceAdd]
  all_goals repeat' split
  all_goals first | rfl | omega | (exfalso; omega)
set_option maxHeartbeats 1000000 in
theorem v_X2_islandEnd (x1 x2 : Int) (σ : St) (hp : pre_X2_islandEnd x1 x2 σ) : V_X2_islandEnd x1 x2 σ (post_X2_islandEnd x1 x2 σ) := by
  simp only [pre_X2_islandEnd, MB] at hp
  unfold V_X2_islandEnd
  try simp only [pre_X0_get, ans_X0_get, forall_eq, b01, b01R, Nat.reduceAdd]
  repeat' first | exact trivial | refine And.intro ?_ ?_ | intro _
  all_goals try simp only [post_X2_islandEnd, ans_X2_islandEnd, eff_X4_set, Nat.reduceAdd]
  all_goals repeat' split
  all_goals first | rfl | omega | (exfalso; omega)
set_option maxHeartbeats 1000000 in
theorem v_X2_elementEnd (x1 x2 : Int) (σ : St) (hp : pre_X2_elementEnd x1 x2 σ) : V_X2_elementEnd x1 x2 σ (post_X2_elementEnd x1 x2 σ) := by
  simp only [pre_X2_elementEnd, MB] at hp
  have m54 := hp.2.2.2.2.2.2.1.1 x2
  have m56 := hp.2.2.2.2.2.2.1.2.1 x2
  unfold V_X2_elementEnd
  try simp only [tget, ct, pre_X0_get, ans_X0_get, pre_X4_get, ans_X4_get, pre_X5_textAt, ans_X5_textAt, pre_X6_isReference, ans_X6_isReference, forall_eq, b01, b01R, Nat.reduceAdd]
  repeat' first | exact trivial | refine And.intro ?_ ?_ | intro _
  all_goals try simp only [tget, ct, post_X2_elementEnd, ans_X2_elementEnd, eff_X4_set, Nat.reduceAdd]
  all_goals repeat' split
  all_goals first | rfl | omega | (exfalso; omega)
set_option maxHeartbeats 1000000 in
theorem v_X2_restMatches (x1 x2 x3 : Int) (σ : St) (hp : pre_X2_restMatches x1 x2 x3 σ) : V_X2_restMatches x1 x2 x3 σ (post_X2_restMatches x1 x2 x3 σ) := by
  simp only [pre_X2_restMatches, MB] at hp
  have m60 := hp.2.2.2.2.2.2.2.2.2 ((x1 * 9 + x2) * 101 + x3)
  unfold V_X2_restMatches
  try simp only [tget, ct, pre_X0_get, ans_X0_get, forall_eq, b01, b01R, Nat.reduceAdd]
  repeat' first | exact trivial | refine And.intro ?_ ?_ | intro _
  all_goals try simp only [tget, ct, post_X2_restMatches, ans_X2_restMatches, eff_X4_set, Nat.reduceAdd]
  all_goals repeat' split
  all_goals first | rfl | omega | (exfalso; omega)
end
section
theorem tget_nn {σ : St} {r i p : Int} (h : 0 ≤ p) : tget σ r i p = ct σ r i p := if_pos h
theorem tget_b {σ : St} (h : MB σ) (r i p : Int) : -1 ≤ tget σ r i p ∧ tget σ r i p ≤ 100 := by
  unfold tget
  split
  · exact h.2.2.2 _
  · exact ⟨by decide, by decide⟩
theorem v_X2_markRuns (x1 : Int) (σ : St) (hp : pre_X2_markRuns x1 σ) : V_X2_markRuns x1 σ (post_X2_markRuns x1 σ) := by
  obtain ⟨p0, p1, t0, t1, hM, ht⟩ := hp
  have hv : inR (ans_X5_textAt x1 σ) := by
    unfold ans_X5_textAt
    split
    · next h => exact ht h
    · exact ⟨by decide, by decide⟩
  have h54 := hM.1 (x1 + 1)
  have h56 := hM.2.1 (x1 + 1)
  have es : ∀ (τ : St) (v : Int), eff_X4_set 53 101 x1 v τ = up τ 54 x1 v := fun τ v => if_pos (by omega)
  have es2 : ∀ (τ : St) (v : Int), eff_X4_set 55 101 x1 v τ = up τ 56 x1 v := fun τ v => if_pos (by omega)
  have er : ∀ u : Int, ans_X2_runEnd 55 101 x1 (up σ 54 x1 u) = ans_X2_runEnd 55 101 x1 σ := fun u => by
    unfold ans_X2_runEnd
    rw [up_n _ _ _ (by decide)]
  have e3 : ∀ u : Int, up σ 54 x1 u 56 = σ 56 := fun u => up_n _ _ _ (by decide)
  unfold V_X2_markRuns
  simp only [pre_X5_textAt, pre_X6_isDigit, ans_X6_isDigit, pre_X4_set, pre_X6_isLetter, ans_X6_isLetter, pre_X2_runEnd, forall_eq, b01, b01R, es, es2, er, Nat.reduceAdd, e3]
  repeat' first | exact trivial | refine And.intro ?_ ?_ | intro _
  all_goals try simp only [post_X2_markRuns, eff_X2_markRuns]
  all_goals repeat' split
  all_goals first | rfl | omega | (exfalso; omega)
theorem v_X2_waterRestEnd (x1 x2 x3 : Int) (σ : St) (hp : pre_X2_waterRestEnd x1 x2 x3 σ) : V_X2_waterRestEnd x1 x2 x3 σ (post_X2_waterRestEnd x1 x2 x3 σ) := by
  obtain ⟨p0, p1, p2, p3, p4, p5, t0, t1, hM, ht, hs⟩ := hp
  have e1 : ans_X0_get x1 (x2 + 1) x3 σ = ct σ x1 (x2 + 1) x3 := if_pos p4
  have e2 : ans_X4_get 57 101 x3 σ = σ 58 x3 := if_pos (by omega)
  have e3 : ∀ r, ans_X0_get r 0 x3 σ = ct σ r 0 x3 := fun r => if_pos p4
  have e4 : ans_X0_get x1 x2 (x3 + 1) σ = ct σ x1 x2 (x3 + 1) := if_pos (by omega)
  have b1 := hM.2.2.2 ((x1 * 9 + (x2 + 1)) * 101 + x3)
  have b2 := hM.2.2.1 x3
  have b3 := hM.2.2.2 ((σ 58 x3 * 9 + 0) * 101 + x3)
  have b1 : -1 ≤ ct σ x1 (x2 + 1) x3 ∧ ct σ x1 (x2 + 1) x3 ≤ 100 := b1
  have b3 : -1 ≤ ct σ (σ 58 x3) 0 x3 ∧ ct σ (σ 58 x3) 0 x3 ≤ 100 := b3
  unfold V_X2_waterRestEnd
  simp only [pre_X0_get, pre_X4_get, pre_X5_textAt, ans_X5_textAt, pre_X5_stopOf, ans_X5_stopOf, forall_eq, e1, e2, e3, e4]
  repeat' first | exact trivial | refine And.intro ?_ ?_ | intro _
  all_goals try simp only [post_X2_waterRestEnd, ans_X2_waterRestEnd, ans_X0_get]
  all_goals try simp only [inR]
  all_goals repeat' split
  all_goals first | rfl | omega | (exfalso; omega) | (refine And.intro ?_ ?_ <;> omega)
end
section
theorem ct_up {s : St} {r i p r2 i2 p2 v : Int} (hi : 0 ≤ i ∧ i ≤ 8) (hp : 0 ≤ p ∧ p ≤ 100) (hi2 : 0 ≤ i2 ∧ i2 ≤ 8) (hp2 : 0 ≤ p2 ∧ p2 ≤ 100) : ct (up s 60 ((r * 9 + i) * 101 + p) v) r2 i2 p2 = if r2 = r ∧ i2 = i ∧ p2 = p then v else ct s r2 i2 p2 := by
  unfold ct
  rw [up_s]
  unfold ui
  by_cases h : r2 = r ∧ i2 = i ∧ p2 = p
  · obtain ⟨rfl, rfl, rfl⟩ := h
    rw [if_pos rfl, if_pos ⟨rfl, rfl, rfl⟩]
  · rw [if_neg h, if_neg]
    intro z
    have := cell_inj z hi2 hp2 hi hp
    exact h ⟨by omega, by omega, by omega⟩
theorem ct_n {s : St} {k : Nat} {f : Int → Int} (h : k ≠ 60) : ct (ur s k f) = ct s := by
  funext r i p
  unfold ct
  rw [ur_n _ _ (Ne.symm h)]
theorem ct_row {s t : St} (h : t 60 = s 60) : ct t = ct s := by
  funext r i p
  unfold ct
  rw [h]
theorem MB_60 {s : St} (h : MB s) {j v : Int} (hv : -1 ≤ v ∧ v ≤ 100) : MB (up s 60 j v) := by
  refine ⟨fun q => ?_, fun q => ?_, fun q => ?_, fun q => ?_⟩
  · rw [up_n _ _ _ (by decide)]; exact h.1 q
  · rw [up_n _ _ _ (by decide)]; exact h.2.1 q
  · rw [up_n _ _ _ (by decide)]; exact h.2.2.1 q
  · rw [up_s]
    unfold ui
    split
    · exact hv
    · exact h.2.2.2 q
theorem MB_58 {s : St} (h : MB s) {j v : Int} (hv : -1 ≤ v ∧ v ≤ 5) : MB (up s 58 j v) := by
  refine ⟨fun q => ?_, fun q => ?_, fun q => ?_, fun q => ?_⟩
  · rw [up_n _ _ _ (by decide)]; exact h.1 q
  · rw [up_n _ _ _ (by decide)]; exact h.2.1 q
  · rw [up_s]
    unfold ui
    split
    · exact hv
    · exact h.2.2.1 q
  · rw [up_n _ _ _ (by decide)]; exact h.2.2.2 q
/-- what an element of a well-formed rule is in the class's cells -/
theorem cgW {σ : St} (h : gWF (cg σ 1)) : (0 ≤ σ 1 4 ∧ σ 1 4 ≤ 100) ∧ (∀ p, 0 ≤ p → p < σ 1 4 → 32 ≤ σ 3 p ∧ σ 3 p ≤ 126) ∧ ∀ r, 0 ≤ r → r < 6 → (0 ≤ σ 5 r ∧ σ 5 r ≤ 8) ∧ (σ 9 r = -1 ∨ (32 ≤ σ 9 r ∧ σ 9 r ≤ 126)) ∧ (∀ i, 0 ≤ i → i < σ 5 r → 32 ≤ σ 7 (r * 8 + i) ∧ σ 7 (r * 8 + i) ≤ 126) ∧ (0 < σ 5 r → σ 7 (r * 8 + 0) ≠ 126 ∧ ¬ (65 ≤ σ 7 (r * 8 + 0) ∧ σ 7 (r * 8 + 0) ≤ 70)) := by
  obtain ⟨h1, h2, h3⟩ := h
  refine ⟨h1, fun p a b => ?_, fun r a b => ?_⟩
  · have := h2 p a b
    rw [cg_t a b] at this
    exact this
  · obtain ⟨g1, g2, g3, g4⟩ := h3 r a b
    rw [cg_s a b] at g1 g3 g4
    rw [cg_p a b] at g2
    refine ⟨g1, g2, fun i c d => ?_, fun c => ?_⟩
    · have := g3 i c d
      rw [cg_e a b c d] at this
      exact this
    · have := g4 c
      rw [cg_e a b (by decide) c] at this
      exact this
theorem eEnd_b {σ : St} (h : MB σ) {x p : Int} (hx : 0 ≤ x) (hp : 0 ≤ p) (hL : σ 1 4 ≤ 100) : -1 ≤ ans_X2_elementEnd x p σ ∧ ans_X2_elementEnd x p σ ≤ 100 := by
  unfold ans_X2_elementEnd
  split
  · exact h.1 p
  · split
    · exact h.2.1 p
    · split
      · exact h.2.2.2 _
      · split
        · omega
        · omega
/-- an element's end reads the text, the runs, and whole islands -/
theorem eEnd_congr {s σ : St} {x p : Int} (h1 : s 1 = σ 1) (h3 : s 3 = σ 3) (h54 : s 54 = σ 54) (h56 : s 56 = σ 56) (hx : ¬ (65 ≤ x ∧ x ≤ 70) ∨ ct s (x - 65) 0 p = ct σ (x - 65) 0 p) : ans_X2_elementEnd x p s = ans_X2_elementEnd x p σ := by
  unfold ans_X2_elementEnd
  rw [h1, h3, h54, h56]
  by_cases a : x = 35
  · rw [if_pos a, if_pos a]
  · rw [if_neg a, if_neg a]
    by_cases b : x = 64
    · rw [if_pos b, if_pos b]
    · rw [if_neg b, if_neg b]
      by_cases c : 65 ≤ x ∧ x ≤ 70
      · rw [if_pos c, if_pos c]
        exact hx.resolve_left (fun z => z c)
      · rw [if_neg c, if_neg c]
def MI (σ : St) (p y : Int) (s : St) : Prop := MB s ∧ (∀ q, q ≠ 58 → q ≠ 60 → s q = σ q) ∧ (∀ j, j ≠ p → s 58 j = σ 58 j) ∧ (∀ r i q, 0 ≤ r → r < 6 → 0 ≤ i → i ≤ 8 → 0 ≤ q → q ≤ 100 → (i ≠ 0 ∨ q ≠ p ∨ r ≤ y) → ct s r i q = ct σ r i q) ∧ (∀ r, y < r → r < 6 → ct s r 0 p = if σ 5 r ≤ 0 then -1 else tget σ r 1 (ans_X2_elementEnd (σ 7 (r * 8 + 0)) p σ)) ∧ isF (ct s) p y (s 58 p)
theorem MI_step {σ : St} {p y : Int} {s : St} (hy : 0 ≤ y) (hy5 : y ≤ 5) (hp : 0 ≤ p ∧ p ≤ 100) (h : MI σ p y s) (v : Int) (hv : v = if σ 5 y ≤ 0 then -1 else tget σ y 1 (ans_X2_elementEnd (σ 7 (y * 8 + 0)) p σ)) (hb : -1 ≤ v ∧ v ≤ 100) :
    (v = -1 → MI σ p (y - 1) (up s 60 ((y * 9 + 0) * 101 + p) v)) ∧ (v ≠ -1 → MI σ p (y - 1) (up (up s 60 ((y * 9 + 0) * 101 + p) v) 58 p y)) := by
  obtain ⟨h1, h2, h3, h4, h5, h6⟩ := h
  have c0 : ∀ r i q : Int, 0 ≤ i → i ≤ 8 → 0 ≤ q → q ≤ 100 → ct (up s 60 ((y * 9 + 0) * 101 + p) v) r i q = if r = y ∧ i = 0 ∧ q = p then v else ct s r i q := fun r i q a b c d => ct_up ⟨by decide, by decide⟩ hp ⟨a, b⟩ ⟨c, d⟩
  have c1 : ct (up (up s 60 ((y * 9 + 0) * 101 + p) v) 58 p y) = ct (up s 60 ((y * 9 + 0) * 101 + p) v) := ct_row (up_n _ _ _ (by decide))
  have fr : ∀ r i q, 0 ≤ r → r < 6 → 0 ≤ i → i ≤ 8 → 0 ≤ q → q ≤ 100 → (i ≠ 0 ∨ q ≠ p ∨ r ≤ y - 1) → ct (up s 60 ((y * 9 + 0) * 101 + p) v) r i q = ct σ r i q := fun r i q a b c d e f g => by
    rw [c0 r i q c d e f, if_neg (by omega)]
    exact h4 r i q a b c d e f (by omega)
  have vl : ∀ r, y - 1 < r → r < 6 → ct (up s 60 ((y * 9 + 0) * 101 + p) v) r 0 p = if σ 5 r ≤ 0 then -1 else tget σ r 1 (ans_X2_elementEnd (σ 7 (r * 8 + 0)) p σ) := fun r a b => by
    rw [c0 r 0 p (by decide) (by decide) hp.1 hp.2]
    by_cases e : r = y
    · subst e
      rw [if_pos ⟨rfl, rfl, rfl⟩, hv]
    · rw [if_neg (fun z => e z.1)]
      exact h5 r (by omega) b
  have cy : ∀ r, y < r → ct (up s 60 ((y * 9 + 0) * 101 + p) v) r 0 p = ct s r 0 p := fun r a => by
    rw [c0 r 0 p (by decide) (by decide) hp.1 hp.2, if_neg (by omega)]
  have cv : ct (up s 60 ((y * 9 + 0) * 101 + p) v) y 0 p = v := by
    rw [c0 y 0 p (by decide) (by decide) hp.1 hp.2, if_pos ⟨rfl, rfl, rfl⟩]
  refine ⟨fun e => ⟨MB_60 h1 hb, fun q a b => ?_, fun j a => ?_, fr, vl, ?_⟩, fun e => ⟨MB_58 (MB_60 h1 hb) ⟨by omega, hy5⟩, fun q a b => ?_, fun j a => ?_, fun r i q a b c d e f g => by rw [c1]; exact fr r i q a b c d e f g, fun r a b => by rw [c1]; exact vl r a b, ?_⟩⟩
  · rw [up_n _ _ _ b]; exact h2 q a b
  · rw [up_n _ _ _ (by decide)]; exact h3 j a
  · rw [up_n (q := 58) _ _ _ (by decide)]
    rcases h6 with ⟨g1, g2⟩ | ⟨g1, g2, g3, g4⟩
    · refine Or.inl ⟨g1, fun r a b => ?_⟩
      by_cases q : r = y
      · subst q; rw [cv]; exact e
      · rw [cy r (by omega)]; exact g2 r (by omega) b
    · refine Or.inr ⟨by omega, g2, by rw [cy _ g1]; exact g3, fun r a b => ?_⟩
      by_cases q : r = y
      · subst q; rw [cv]; exact e
      · rw [cy r (by omega)]; exact g4 r (by omega) b
  · rw [up_n _ _ _ a, up_n _ _ _ b]; exact h2 q a b
  · rw [up_s, ui_n _ _ a, up_n _ _ _ (by decide)]; exact h3 j a
  · rw [c1, up_s, ui_s]
    exact Or.inr ⟨by omega, by omega, by rw [cv]; exact e, fun r a b => by omega⟩
theorem l_X2_matchIslands (p : Int) (σ : St) (hp : 0 ≤ p ∧ p ≤ 100) (hW : gWF (cg σ 1)) (Q : St → Prop) (hQ : ∀ s, MI σ p (-1) s → Q s) : ∀ (d : Nat) (y : Int) (s : St), y = (d : Int) - 1 → y ≤ 5 → MI σ p y s → ∃ n, L_X2_matchIslands_11 Q p n y s := by
  obtain ⟨⟨t0, t1⟩, hT, hR⟩ := cgW hW
  intro d
  induction d with
  | zero =>
    intro y s hy h5 hI
    refine ⟨1, ⟨by omega, by omega⟩, fun _ => hQ s ?_, fun h => absurd (by omega) h⟩
    rw [show y = -1 by omega] at hI
    exact hI
  | succ d ih =>
    intro y s hy h5 hI
    have hy0 : 0 ≤ y := by omega
    obtain ⟨⟨z0, z1⟩, zs, ze, zf⟩ := hR y hy0 (by omega)
    obtain ⟨i1, i2, i3, i4, i5, i6⟩ := id hI
    have r5 : s 5 = σ 5 := i2 5 (by decide) (by decide)
    have r7 : s 7 = σ 7 := i2 7 (by decide) (by decide)
    have r1 : s 1 = σ 1 := i2 1 (by decide) (by decide)
    have r3 : s 3 = σ 3 := i2 3 (by decide) (by decide)
    have r54 : s 54 = σ 54 := i2 54 (by decide) (by decide)
    have r56 : s 56 = σ 56 := i2 56 (by decide) (by decide)
    by_cases hz : σ 5 y ≤ 0
    · obtain ⟨n, hn⟩ := ih (y - 1) _ (by omega) (by omega) ((MI_step hy0 h5 hp hI (-1) (by rw [if_pos hz]) (by decide)).1 rfl)
      refine ⟨n + 1, ⟨by omega, by omega⟩, fun h => absurd h (by omega), fun _ => ⟨⟨hy0, by omega⟩, fun r8 e8 => ?_⟩⟩
      have e8 : r8 = σ 5 y := by rw [e8]; show s 5 y = _; rw [r5]
      refine ⟨⟨by omega, by omega⟩, fun _ => ⟨⟨hy0, h5, by decide, by decide, hp.1, hp.2⟩, fun s13 e13 => ?_⟩, fun h => absurd (by omega) h⟩
      rw [e13]
      exact hn
    · obtain ⟨f1, f2⟩ := zf (by omega)
      have hb := ze 0 (by decide) (by omega)
      have ee : ans_X2_elementEnd (σ 7 (y * 8 + 0)) p s = ans_X2_elementEnd (σ 7 (y * 8 + 0)) p σ := eEnd_congr r1 r3 r54 r56 (Or.inl f2)
      have eb := eEnd_b i1 (x := σ 7 (y * 8 + 0)) (p := p) (by omega) hp.1 (by rw [r1]; exact t1)
      have et : tget s y 1 (ans_X2_elementEnd (σ 7 (y * 8 + 0)) p s) = tget σ y 1 (ans_X2_elementEnd (σ 7 (y * 8 + 0)) p σ) := by
        rw [ee]
        rw [ee] at eb
        unfold tget
        by_cases g : 0 ≤ ans_X2_elementEnd (σ 7 (y * 8 + 0)) p σ
        · rw [if_pos g, if_pos g]
          exact i4 y 1 _ hy0 (by omega) (by decide) (by decide) g eb.2 (Or.inl (by decide))
        · rw [if_neg g, if_neg g]
      have vb := tget_b i1 y 1 (ans_X2_elementEnd (σ 7 (y * 8 + 0)) p s)
      have st := MI_step hy0 h5 hp hI (tget s y 1 (ans_X2_elementEnd (σ 7 (y * 8 + 0)) p s)) (by rw [if_neg hz, et]) vb
      have key : ∃ n, ∀ r25 : Int, r25 = tget s y 1 (ans_X2_elementEnd (σ 7 (y * 8 + 0)) p s) → (r25 = -1 → L_X2_matchIslands_11 Q p n (y + (-1)) (up s 60 ((y * 9 + 0) * 101 + p) r25)) ∧ (r25 ≠ -1 → L_X2_matchIslands_11 Q p n (y + (-1)) (up (up s 60 ((y * 9 + 0) * 101 + p) r25) 58 p y)) := by
        by_cases g : tget s y 1 (ans_X2_elementEnd (σ 7 (y * 8 + 0)) p s) = -1
        · obtain ⟨n, hn⟩ := ih (y - 1) _ (by omega) (by omega) (st.1 g)
          exact ⟨n, fun r e => ⟨fun _ => by rw [e]; exact hn, fun z => absurd (e.trans g) z⟩⟩
        · obtain ⟨n, hn⟩ := ih (y - 1) _ (by omega) (by omega) (st.2 g)
          exact ⟨n, fun r e => ⟨fun z => absurd (e.symm.trans z) g, fun _ => by rw [e]; exact hn⟩⟩
      obtain ⟨n, hn⟩ := key
      refine ⟨n + 1, ⟨by omega, by omega⟩, fun h => absurd h (by omega), fun _ => ⟨⟨hy0, by omega⟩, fun r8 e8 => ?_⟩⟩
      have e8 : r8 = σ 5 y := by rw [e8]; show s 5 y = _; rw [r5]
      refine ⟨⟨by omega, by omega⟩, fun h => absurd h (by omega), fun _ => ⟨⟨hy0, by omega, by decide, by decide⟩, fun r17 e17 => ?_⟩⟩
      have e17 : r17 = σ 7 (y * 8 + 0) := by rw [e17]; show s 7 (y * 8 + 0) = _; rw [r7]
      refine ⟨⟨by omega, by omega, hp.1, hp.2, by rw [r1]; exact t0, by rw [r1]; exact t1, i1, fun a => ?_⟩, fun r21 e21 => ?_⟩
      · rw [r1] at a
        rw [r3]
        have := hT p hp.1 a
        exact ⟨by omega, by omega⟩
      · rw [e17] at e21
        refine ⟨⟨hy0, h5, by decide, by decide, by rw [e21]; exact eb.1, by rw [e21]; exact eb.2⟩, fun r25 e25 => ?_⟩
        have e25 : r25 = tget s y 1 (ans_X2_elementEnd (σ 7 (y * 8 + 0)) p s) := by rw [e25, e21]; rfl
        refine ⟨⟨hy0, h5, by decide, by decide, hp.1, hp.2⟩, fun s28 e28 => ?_⟩
        have e28 : s28 = up s 60 ((y * 9 + 0) * 101 + p) r25 := e28
        refine ⟨by rw [e25]; exact ⟨by omega, by omega⟩, fun a => ?_, fun a => ⟨⟨by omega, by omega⟩, fun s33 e33 => ?_⟩⟩
        · rw [e28]
          exact (hn r25 e25).1 a
        · have e33 : s33 = up s28 58 p y := by rw [e33]; exact if_pos ⟨hp.1, by omega⟩
          rw [e33, e28]
          exact (hn r25 e25).2 a
theorem v_X2_matchIslands (x1 : Int) (σ : St) (hp : pre_X2_matchIslands x1 σ) : V_X2_matchIslands x1 σ (post_X2_matchIslands x1 σ) := by
  obtain ⟨p0, p1, hM, hW⟩ := hp
  refine ⟨⟨by omega, by omega⟩, fun s2 e2 => ?_⟩
  have e2 : s2 = up σ 58 x1 (-1) := by rw [e2]; exact if_pos ⟨p0, by omega⟩
  have c2 : ct s2 = ct σ := ct_row (by rw [e2]; exact up_n _ _ _ (by decide))
  refine l_X2_matchIslands x1 σ ⟨p0, p1⟩ hW (post_X2_matchIslands x1 σ) (fun s h => ?_) 6 5 s2 (by decide) (by decide) ⟨?_, ?_, ?_, ?_, ?_, ?_⟩
  · obtain ⟨h1, h2, h3, h4, h5, h6⟩ := h
    exact ⟨h1, h2, h3, fun r i p a b c d e f g => h4 r i p a b c d e f (by omega), fun r a b => h5 r (by omega) b, isF_first h6⟩
  · rw [e2]; exact MB_58 hM (by decide)
  · intro q a b
    rw [e2, up_n _ _ _ a]
  · intro j a
    rw [e2, up_s, ui_n _ _ a]
  · intro r i q a b c d e f g
    rw [c2]
  · intro r a b
    exact absurd a (by omega)
  · rw [e2, up_s, ui_s]
    exact Or.inl ⟨rfl, fun r a b => by omega⟩
end
section
/-- what the rest of rule r from element i on (i from 1) is at p, out of a state's table -/
def rstv (s : St) (r i p : Int) : Int := if i = s 5 r then p else if s 7 (r * 8 + i) = 126 then ans_X2_waterRestEnd r i p s else tget s r (i + 1) (ans_X2_elementEnd (s 7 (r * 8 + i)) p s)
theorem wre_congr {s t : St} {r i p : Int} (h1 : t 1 = s 1) (h3 : t 3 = s 3) (h9 : t 9 = s 9) (h58 : t 58 = s 58) (hM : MB s) (hp : 0 ≤ p ∧ p ≤ 100) (hL : s 1 4 ≤ 100) (ha : ct t r (i + 1) p = ct s r (i + 1) p) (hb : ∀ f, 0 ≤ f → f < 6 → ct t f 0 p = ct s f 0 p) (hne : ∀ f, 0 ≤ f → f < 6 → ct s f 0 p ≠ p) (hc : ∀ q, 0 ≤ q → q ≤ 100 → q ≠ p → ct t r i q = ct s r i q) : ans_X2_waterRestEnd r i p t = ans_X2_waterRestEnd r i p s := by
  unfold ans_X2_waterRestEnd
  rw [ha, h58, h1, h3, h9]
  by_cases a : ¬ ct s r (i + 1) p = -1
  · rw [if_pos a, if_pos a]
  · rw [if_neg a, if_neg a]
    have b58 := hM.2.2.1 p
    by_cases b : ¬ s 58 p = -1
    · rw [if_pos b, if_pos b, hb _ (by omega) (by omega)]
      unfold tget
      have v := hM.2.2.2 ((s 58 p * 9 + 0) * 101 + p)
      have v : -1 ≤ ct s (s 58 p) 0 p ∧ ct s (s 58 p) 0 p ≤ 100 := v
      by_cases c : 0 ≤ ct s (s 58 p) 0 p
      · rw [if_pos c, if_pos c]
        exact hc _ c v.2 (hne _ (by omega) (by omega))
      · rw [if_neg c, if_neg c]
    · rw [if_neg b, if_neg b]
      by_cases c : ¬ p < s 1 4 ∨ s 3 p = s 9 r
      · rw [if_pos c, if_pos c]
      · rw [if_neg c, if_neg c]
        exact hc _ (by omega) (by omega) (by omega)
theorem rstv_congr {s t : St} {r i p : Int} (hq : ∀ q, q ≠ 60 → t q = s q) (hM : MB s) (hp : 0 ≤ p ∧ p ≤ 100) (hL : s 1 4 ≤ 100) (hx : 0 ≤ s 7 (r * 8 + i)) (hi : 1 ≤ i) (ha : ∀ q, 0 ≤ q → q ≤ 100 → i ≠ s 5 r → ct t r (i + 1) q = ct s r (i + 1) q) (hb : ∀ f, 0 ≤ f → f < 6 → ct t f 0 p = ct s f 0 p) (hne : ∀ f, 0 ≤ f → f < 6 → ct s f 0 p ≠ p) (hc : ∀ q, 0 ≤ q → q ≤ 100 → q ≠ p → i ≠ s 5 r → ct t r i q = ct s r i q) : rstv t r i p = rstv s r i p := by
  unfold rstv
  rw [hq 5 (by decide), hq 7 (by decide)]
  by_cases e : i = s 5 r
  · rw [if_pos e, if_pos e]
  · rw [if_neg e, if_neg e]
    by_cases w : s 7 (r * 8 + i) = 126
    · rw [if_pos w, if_pos w]
      exact wre_congr (hq 1 (by decide)) (hq 3 (by decide)) (hq 9 (by decide)) (hq 58 (by decide)) hM hp hL (ha p hp.1 hp.2 e) hb hne (fun q a b c => hc q a b c e)
    · rw [if_neg w, if_neg w]
      have ee : ans_X2_elementEnd (s 7 (r * 8 + i)) p t = ans_X2_elementEnd (s 7 (r * 8 + i)) p s := by
        refine eEnd_congr (hq 1 (by decide)) (hq 3 (by decide)) (hq 54 (by decide)) (hq 56 (by decide)) ?_
        by_cases c : 65 ≤ s 7 (r * 8 + i) ∧ s 7 (r * 8 + i) ≤ 70
        · exact Or.inr (hb _ (by omega) (by omega))
        · exact Or.inl c
      rw [ee]
      have eb := eEnd_b hM hx hp.1 hL
      unfold tget
      by_cases c : 0 ≤ ans_X2_elementEnd (s 7 (r * 8 + i)) p s
      · rw [if_pos c, if_pos c]
        exact ha _ c eb.2 e
      · rw [if_neg c, if_neg c]
theorem wre_b {s : St} {r i p : Int} (hM : MB s) (hp : p ≤ 100) : -1 ≤ ans_X2_waterRestEnd r i p s ∧ ans_X2_waterRestEnd r i p s ≤ 100 := by
  unfold ans_X2_waterRestEnd
  split
  · exact hM.2.2.2 _
  · split
    · exact tget_b hM _ _ _
    · split
      · exact ⟨by decide, by decide⟩
      · exact hM.2.2.2 _
def MR (σ : St) (r p i : Int) (s : St) : Prop := MB s ∧ (∀ q, q ≠ 60 → s q = σ q) ∧ (∀ r' i' q, 0 ≤ r' → r' < 6 → 0 ≤ i' → i' ≤ 8 → 0 ≤ q → q ≤ 100 → (r' ≠ r ∨ i' = 0 ∨ q ≠ p ∨ i' ≤ i) → ct s r' i' q = ct σ r' i' q) ∧ (∀ i', 1 ≤ i' → i < i' → i' ≤ σ 5 r → ct s r i' p = rstv s r i' p) ∧ (∀ f, 0 ≤ f → f < 6 → ct s f 0 p ≠ p)
theorem MR_step {σ : St} {r p i : Int} {s : St} (hr : 0 ≤ r ∧ r < 6) (hp : 0 ≤ p ∧ p ≤ 100) (hi : 1 ≤ i) (hi2 : i ≤ σ 5 r) (h8 : σ 5 r ≤ 8) (hL : σ 1 4 ≤ 100) (hx : ∀ i', 0 ≤ i' → i' < σ 5 r → 0 ≤ σ 7 (r * 8 + i')) (h : MR σ r p i s) (v : Int) (hv : v = rstv s r i p) (hb : -1 ≤ v ∧ v ≤ 100) : MR σ r p (i - 1) (up s 60 ((r * 9 + i) * 101 + p) v) := by
  obtain ⟨h1, h2, h3, h4, h5⟩ := h
  have c0 : ∀ r' i' q : Int, 0 ≤ i' → i' ≤ 8 → 0 ≤ q → q ≤ 100 → ct (up s 60 ((r * 9 + i) * 101 + p) v) r' i' q = if r' = r ∧ i' = i ∧ q = p then v else ct s r' i' q := fun r' i' q a b c d => ct_up ⟨by omega, by omega⟩ hp ⟨a, b⟩ ⟨c, d⟩
  have fq : ∀ q, q ≠ 60 → up s 60 ((r * 9 + i) * 101 + p) v q = s q := fun q a => up_n _ _ _ a
  have s5 : s 5 = σ 5 := h2 5 (by decide)
  have s7 : s 7 = σ 7 := h2 7 (by decide)
  have s1 : s 1 = σ 1 := h2 1 (by decide)
  refine ⟨MB_60 h1 hb, fun q a => by rw [fq q a]; exact h2 q a, fun r' i' q a b c d e f g => ?_, fun i' a b c => ?_, fun f a b => by rw [c0 f 0 p (by decide) (by decide) hp.1 hp.2, if_neg (by omega)]; exact h5 f a b⟩
  · rw [c0 r' i' q c d e f, if_neg (by omega)]
    exact h3 r' i' q a b c d e f (by omega)
  · have hs : rstv (up s 60 ((r * 9 + i) * 101 + p) v) r i' p = rstv s r i' p := by
      by_cases hz : i' = σ 5 r
      · unfold rstv
        rw [fq 5 (by decide), s5, if_pos hz, if_pos hz]
      · refine rstv_congr fq h1 hp (by rw [s1]; exact hL) (by rw [s7]; exact hx i' (by omega) (by omega)) a (fun q x y z => ?_) (fun f x y => ?_) h5 (fun q x y w z => ?_)
        · rw [c0 r (i' + 1) q (by omega) (by rw [s5] at z; omega) x y, if_neg (by omega)]
        · rw [c0 f 0 p (by decide) (by decide) hp.1 hp.2, if_neg (by omega)]
        · rw [c0 r i' q (by omega) (by omega) x y, if_neg (by omega)]
    rw [hs]
    by_cases iz : i' = i
    · subst iz
      rw [c0 r i' p (by omega) (by omega) hp.1 hp.2, if_pos ⟨rfl, rfl, rfl⟩, hv]
    · rw [c0 r i' p (by omega) (by omega) hp.1 hp.2, if_neg (by omega)]
      exact h4 i' a (by omega) c
theorem l_X2_matchRests (r p : Int) (σ : St) (hr : 0 ≤ r ∧ r < 6) (hp : 0 ≤ p ∧ p ≤ 100) (hW : gWF (cg σ 1)) (Q : St → Prop) (hQ : ∀ s, MR σ r p 0 s → Q s) : ∀ (d : Nat) (i : Int) (s : St), i = d → i ≤ σ 5 r - 1 ∨ i ≤ 0 → MR σ r p i s → ∃ n, L_X2_matchRests_29 Q r p n i s := by
  obtain ⟨⟨t0, t1⟩, hT, hR⟩ := cgW hW
  obtain ⟨⟨z0, z1⟩, zs, ze, zf⟩ := hR r hr.1 hr.2
  intro d
  induction d with
  | zero =>
    intro i s hi hs hI
    refine ⟨1, ⟨by omega, by omega⟩, fun _ => hQ s ?_, fun h => absurd (by omega) h⟩
    rw [show i = 0 by omega] at hI
    exact hI
  | succ d ih =>
    intro i s hi hs hI
    obtain ⟨i1, i2, i3, i4, i5⟩ := id hI
    have r7 : s 7 = σ 7 := i2 7 (by decide)
    have r5 : s 5 = σ 5 := i2 5 (by decide)
    have r1 : s 1 = σ 1 := i2 1 (by decide)
    have r3 : s 3 = σ 3 := i2 3 (by decide)
    have r9 : s 9 = σ 9 := i2 9 (by decide)
    have hb := ze i (by omega) (by omega)
    have step := fun v hv hvb => MR_step hr hp (by omega) (by omega) z1 t1 (fun j a b => by have := ze j a b; omega) hI v hv hvb
    have tx : p < s 1 4 → 32 ≤ s 3 p ∧ s 3 p ≤ 126 := fun a => by
      rw [r1] at a
      rw [r3]
      exact hT p hp.1 a
    have rb : -1 ≤ rstv s r i p ∧ rstv s r i p ≤ 100 := by
      unfold rstv
      split
      · omega
      · split
        · exact wre_b i1 hp.2
        · exact tget_b i1 _ _ _
    obtain ⟨n, hn⟩ := ih (i - 1) _ (by omega) (by omega) (step (rstv s r i p) rfl rb)
    refine ⟨n + 1, ⟨by omega, by omega⟩, fun h => absurd h (by omega), fun _ => ⟨⟨hr.1, hr.2, by omega, by omega⟩, fun r11 e11 => ?_⟩⟩
    have e11 : r11 = s 7 (r * 8 + i) := e11
    refine ⟨by rw [e11, r7]; exact ⟨by omega, by omega⟩, fun a => ⟨⟨by rw [e11, r7]; omega, by rw [e11, r7]; omega, hp.1, hp.2, by rw [r1]; exact t0, by rw [r1]; exact t1, i1, fun b => ?_⟩, fun r17 e17 => ?_⟩, fun a => ⟨⟨hr.1, by omega, by omega, by omega, hp.1, hp.2, by rw [r1]; exact t0, by rw [r1]; exact t1, i1, tx, ?_⟩, fun r28 e28 => ⟨⟨hr.1, by omega, by omega, by omega, hp.1, hp.2⟩, fun s31 e31 => ?_⟩⟩⟩
    · have := tx b
      exact ⟨by omega, by omega⟩
    · have eb := eEnd_b i1 (x := r11) (p := p) (by rw [e11, r7]; omega) hp.1 (by rw [r1]; exact t1)
      rw [← e17] at eb
      refine ⟨⟨hr.1, by omega, by omega, by omega, eb.1, eb.2⟩, fun r21 e21 => ⟨⟨hr.1, by omega, by omega, by omega, hp.1, hp.2⟩, fun s24 e24 => ?_⟩⟩
      have e21 : r21 = rstv s r i p := by
        unfold rstv
        rw [if_neg (by rw [r5]; omega), ← e11, if_neg a, e21, e17]
        rfl
      rw [show s24 = up s 60 ((r * 9 + i) * 101 + p) r21 from e24, e21]
      exact hn
    · rw [r9]
      exact ⟨by omega, by omega⟩
    · have e28 : r28 = rstv s r i p := by
        unfold rstv
        rw [if_neg (by rw [r5]; omega), ← e11, if_pos a, e28]
      rw [show s31 = up s 60 ((r * 9 + i) * 101 + p) r28 from e31, e28]
      exact hn
theorem v_X2_matchRests (x1 x2 : Int) (σ : St) (hp : pre_X2_matchRests x1 x2 σ) : V_X2_matchRests x1 x2 σ (post_X2_matchRests x1 x2 σ) := by
  obtain ⟨p0, p1, p2, p3, hM, hW, hne⟩ := hp
  obtain ⟨⟨t0, t1⟩, hT, hR⟩ := cgW hW
  obtain ⟨⟨z0, z1⟩, zs, ze, zf⟩ := hR x1 p0 (by omega)
  have fin : ∀ s, MR σ x1 x2 0 s → post_X2_matchRests x1 x2 σ s := fun s h => by
    obtain ⟨h1, h2, h3, h4, h5⟩ := h
    exact ⟨h1, h2, fun r i p a b c d e f g => h3 r i p a b c d e f (by omega), fun i a b => h4 i a (by omega) b⟩
  refine ⟨⟨p0, by omega⟩, fun r3 e3 => ?_⟩
  have e3 : r3 = σ 5 x1 := e3
  refine ⟨⟨by omega, by omega⟩, fun a => ?_, fun a => ⟨⟨p0, p1, by omega, by omega, p2, p3⟩, fun s34 e34 => ?_⟩⟩
  · have hI : MR σ x1 x2 (r3 - 1) σ := ⟨hM, fun _ _ => rfl, fun _ _ _ _ _ _ _ _ _ _ => rfl, fun i' b c d => by omega, hne⟩
    refine ⟨1, ⟨by omega, by omega⟩, fun _ => fin _ ⟨hM, fun _ _ => rfl, fun _ _ _ _ _ _ _ _ _ _ => rfl, fun i' b c d => by omega, hne⟩, fun h => absurd (by omega) h⟩
  · have hI : MR σ x1 x2 r3 σ := ⟨hM, fun _ _ => rfl, fun _ _ _ _ _ _ _ _ _ _ => rfl, fun i' b c d => by omega, hne⟩
    have st := MR_step ⟨p0, by omega⟩ ⟨p2, p3⟩ (by omega) (by omega) z1 t1 (fun j a b => by have := ze j a b; omega) hI x2 (by unfold rstv; rw [if_pos e3]) (by omega)
    rw [show s34 = up σ 60 ((x1 * 9 + r3) * 101 + x2) x2 from e34]
    exact l_X2_matchRests x1 x2 σ ⟨p0, by omega⟩ ⟨p2, p3⟩ hW (post_X2_matchRests x1 x2 σ) fin (r3 - 1).toNat (r3 - 1) _ (by omega) (by omega) st
end
section
/-- the class's way of an element's end -/
theorem eE_lnk {s : St} (hW : gWF (cg s 1)) {e p : Int} (hp : 0 ≤ p) (he : 32 ≤ e) (h54 : s 54 p = runE (cg s 1) 48 57 p) (h56 : s 56 p = runE (cg s 1) 97 122 p) : ans_X2_elementEnd e p s = eE (cg s 1) (ct s) e p := by
  unfold ans_X2_elementEnd eE
  by_cases a : e = 35
  · rw [if_pos a, if_neg (by omega), if_pos a, h54]
  · rw [if_neg a]
    by_cases b : e = 64
    · rw [if_pos b, if_neg (by omega), if_neg a, if_pos b, h56]
    · rw [if_neg b]
      by_cases c : 65 ≤ e ∧ e ≤ 70
      · rw [if_pos c, if_pos c]
      · rw [if_neg c, if_neg c, if_neg a, if_neg b]
        by_cases d : p < s 1 4
        · rw [cg_t hp d]
          by_cases f : s 3 p = e
          · rw [if_pos ⟨d, f⟩, if_pos ⟨d, f⟩]
          · rw [if_neg (fun z => f z.2), if_neg (fun z => f z.2)]
        · rw [if_neg (fun z => d z.1), if_neg (fun z => d z.1)]
theorem rst_lnk {s : St} (hW : gWF (cg s 1)) (hM : MB s) {r i p : Int} (hr : 0 ≤ r ∧ r < 6) (hi : 1 ≤ i) (hi2 : i ≤ s 5 r) (hp : 0 ≤ p) (hpl : p ≤ s 1 4) (h54 : s 54 p = runE (cg s 1) 48 57 p) (h56 : s 56 p = runE (cg s 1) 97 122 p) (h58 : s 58 p = first (ct s) p) : rstv s r i p = rhs (cg s 1) (ct s) r i p := by
  obtain ⟨⟨t0, t1⟩, hT, hR⟩ := cgW hW
  obtain ⟨⟨z0, z1⟩, zs, ze, zf⟩ := hR r hr.1 hr.2
  unfold rstv rhs
  rw [cg_s hr.1 hr.2]
  by_cases e : i = s 5 r
  · rw [if_pos e, if_pos e, if_neg (by omega)]
  · rw [if_neg e, if_neg e, cg_e hr.1 hr.2 (by omega) (show i < s (1 + 4) r by show i < s 5 r; omega)]
    by_cases w : s 7 (r * 8 + i) = 126
    · rw [if_pos w, if_pos w]
      unfold ans_X2_waterRestEnd
      by_cases a : ct s r (i + 1) p = -1
      · have an : ¬ ¬ ct s r (i + 1) p = -1 := fun z => z a
        rw [if_neg an, if_neg an, h58]
        rcases first_rng (ct s) p with y | ⟨y1, y2, y3⟩
        · have yn : ¬ ¬ first (ct s) p = -1 := fun z => z y
          rw [if_neg yn, if_neg yn]
          by_cases d : p < s 1 4
          · rw [cg_t hp d, cg_p hr.1 hr.2, cg_L]
            by_cases f : s 3 p = s 9 r
            · rw [if_pos (Or.inr f), if_pos (Or.inr f)]
            · have h1 : ¬ (¬ p < s 1 4 ∨ s 3 p = s 9 r) := fun z => z.elim (fun z => z d) f
              have h2 : ¬ (p = s 1 4 ∨ s 3 p = s 9 r) := fun z => z.elim (fun z => by omega) f
              rw [if_neg h1]
              exact (if_neg h2).symm
          · rw [if_pos (Or.inl d)]
            exact (if_pos (Or.inl (show p = s 1 4 by omega))).symm
        · have yn : ¬ first (ct s) p = -1 := by omega
          rw [if_pos yn, if_pos yn, tget_nn]
          have := hM.2.2.2 ((first (ct s) p * 9 + 0) * 101 + p)
          have : -1 ≤ ct s (first (ct s) p) 0 p ∧ ct s (first (ct s) p) 0 p ≤ 100 := this
          omega
      · rw [if_pos a, if_pos a]
    · rw [if_neg w, if_neg w]
      have hb := ze i (by omega) (by omega)
      rw [eE_lnk hW hp hb.1 h54 h56]
      have eb := eEnd_b hM (x := s 7 (r * 8 + i)) (p := p) (by omega) hp t1
      rw [eE_lnk hW hp hb.1 h54 h56] at eb
      unfold tget
      by_cases c : 0 ≤ eE (cg s 1) (ct s) (s 7 (r * 8 + i)) p
      · have cn : ¬ eE (cg s 1) (ct s) (s 7 (r * 8 + i)) p = -1 := by omega
        rw [if_pos c]
        exact (if_neg cn).symm
      · have cn : eE (cg s 1) (ct s) (s 7 (r * 8 + i)) p = -1 := by omega
        rw [if_neg c]
        exact (if_pos cn).symm
def UI (σ : St) (p : Int) (s : St) : Prop := MB s ∧ (∀ q, q ≠ 54 → q ≠ 56 → q ≠ 58 → q ≠ 60 → s q = σ q) ∧ ∀ q, p < q → q ≤ σ 1 4 → GoodAt (cg σ 1) (ct s) q ∧ s 58 q = first (ct s) q ∧ s 54 q = runE (cg σ 1) 48 57 q ∧ s 56 q = runE (cg σ 1) 97 122 q
/-- the runs at a place, out of the next place's -/
theorem run_mark {s : St} {σ : St} {p : Int} (k : Nat) (lo hi : Int) (hlo : 32 ≤ lo) (h1 : s 1 = σ 1) (h3 : s 3 = σ 3) (hp : 0 ≤ p) (hpl : p ≤ σ 1 4) (hL : σ 1 4 ≤ 100) (hr : ∀ q, p < q → q ≤ σ 1 4 → s (k + 1) q = runE (cg σ 1) lo hi q) : (if lo ≤ ans_X5_textAt p s ∧ ans_X5_textAt p s ≤ hi then ans_X2_runEnd k 101 p s else -1) = runE (cg σ 1) lo hi p := by
  unfold ans_X5_textAt
  rw [h1, h3]
  by_cases a : p < σ 1 4
  · rw [if_pos a]
    by_cases b : lo ≤ σ 3 p ∧ σ 3 p ≤ hi
    · rw [if_pos b, runE_next hp (by rw [cg_t hp a]; exact ⟨a, b⟩)]
      unfold ans_X2_runEnd
      rw [hr (p + 1) (by omega) (by omega)]
      by_cases c : runE (cg σ 1) lo hi (p + 1) = -1
      · rw [if_neg (fun z => z.2.2 c), if_pos c]
      · rw [if_pos ⟨by omega, by omega, c⟩, if_neg c]
    · rw [if_neg b, runE_no (by rw [cg_t hp a]; exact fun z => b z.2)]
  · rw [if_neg a, if_neg (by omega), runE_no (fun z => a z.1)]
def UJ (σ : St) (p : Int) (s11 : St) (y : Int) (t : St) : Prop := MB t ∧ (∀ q, q ≠ 60 → t q = s11 q) ∧ (∀ r i q, 0 ≤ r → r < 6 → 0 ≤ i → i ≤ 8 → 0 ≤ q → q ≤ 100 → (i = 0 ∨ q ≠ p ∨ y ≤ r) → ct t r i q = ct s11 r i q) ∧ (∀ r, 0 ≤ r → r < y → ∀ i, 1 ≤ i → i ≤ σ 5 r → ct t r i p = rstv t r i p)
theorem l_X2_update_24 (σ : St) (p : Int) (s11 : St) (hp : 0 ≤ p ∧ p ≤ 100) (hW : gWF (cg σ 1)) (hs : ∀ q, q ≠ 54 → q ≠ 56 → q ≠ 58 → q ≠ 60 → s11 q = σ q) (hne : ∀ f, 0 ≤ f → f < 6 → ct s11 f 0 p ≠ p) (Q : St → Prop) (K : St → Prop) (hK : ∀ t, UJ σ p s11 6 t → K t) : ∀ (n : Nat) (y : Int) (t : St), (6 - y).toNat < n → 0 ≤ y → y ≤ 6 → UJ σ p s11 y t → L_X2_update_24 Q K p n y t := by
  obtain ⟨⟨t0, t1⟩, hT, hR⟩ := cgW hW
  intro n
  induction n with
  | zero => intro y t hy; exact absurd hy (Nat.not_lt_zero _)
  | succ n ih =>
    intro y t hy h0 h6 hI
    obtain ⟨i1, i2, i3, i4⟩ := id hI
    have tq : ∀ q, q ≠ 54 → q ≠ 56 → q ≠ 58 → q ≠ 60 → t q = σ q := fun q a b c e => by rw [i2 q e]; exact hs q a b c e
    have gt' : cg t 1 = cg σ 1 := cg_congr (fun q a b => tq q (by omega) (by omega) (by omega) (by omega))
    have hne' : ∀ f, 0 ≤ f → f < 6 → ct t f 0 p ≠ p := fun f a b => by
      rw [i3 f 0 p a b (by decide) (by decide) hp.1 hp.2 (Or.inl rfl)]
      exact hne f a b
    have key : ∀ t', y < 6 → post_X2_matchRests y p t t' → UJ σ p s11 (y + 1) t' := by
      intro t' hy6 hpost
      obtain ⟨g1, g2, g3, g4⟩ := hpost
      have t5 : t 5 = σ 5 := tq 5 (by decide) (by decide) (by decide) (by decide)
      have t7 : t 7 = σ 7 := tq 7 (by decide) (by decide) (by decide) (by decide)
      have t1' : t 1 = σ 1 := tq 1 (by decide) (by decide) (by decide) (by decide)
      refine ⟨g1, fun q a => by rw [g2 q a]; exact i2 q a, fun r i q a b c e f g h => ?_, fun r a b i c e => ?_⟩
      · rw [g3 r i q a b c e f g (by omega)]
        exact i3 r i q a b c e f g (by omega)
      · by_cases z : r = y
        · subst z
          exact g4 i c (by rw [t5]; exact e)
        · obtain ⟨⟨z0, z1⟩, zs, ze, zf⟩ := hR r a (by omega)
          rw [g3 r i p a (by omega) (by omega) (by omega) hp.1 hp.2 (Or.inl z), i4 r a (by omega) i c e]
          symm
          by_cases u : i = σ 5 r
          · unfold rstv
            rw [g2 5 (by decide), t5, if_pos u, if_pos u]
          · refine rstv_congr g2 i1 hp (by rw [t1']; exact t1) (by rw [t7]; have := ze i (by omega) (by omega); omega) c (fun q x v w => ?_) (fun f x v => ?_) hne' (fun q x v w w2 => ?_)
            · exact g3 r (i + 1) q a (by omega) (by omega) (by omega) x v (Or.inl z)
            · exact g3 f 0 p x v (by decide) (by decide) hp.1 hp.2 (Or.inr (Or.inl rfl))
            · exact g3 r i q a (by omega) (by omega) (by omega) x v (Or.inl z)
    refine ⟨⟨by omega, by omega⟩, fun h => hK t ?_, fun h => ⟨⟨h0, by omega, hp.1, hp.2, i1, by rw [gt']; exact hW, hne'⟩, fun t' hpost => ih (y + 1) t' (by omega) (by omega) (by omega) (key t' (by omega) hpost)⟩⟩
    rw [show y = 6 by omega] at hI
    exact hI
theorem UI_step {σ : St} {p : Int} {s s8 s11 t : St} (hp : 0 ≤ p) (hpl : p ≤ σ 1 4) (hW : gWF (cg σ 1)) (hI : UI σ p s) (e8 : s8 = eff_X2_markRuns p s) : (MB s8 ∧ (∀ q, q ≠ 54 → q ≠ 56 → s8 q = s q) ∧ s8 54 p = runE (cg σ 1) 48 57 p ∧ s8 56 p = runE (cg σ 1) 97 122 p ∧ (∀ j, j ≠ p → s8 54 j = s 54 j ∧ s8 56 j = s 56 j)) ∧
    (post_X2_matchIslands p s8 s11 → (∀ q, q ≠ 54 → q ≠ 56 → q ≠ 58 → q ≠ 60 → s11 q = σ q) ∧ (∀ f, 0 ≤ f → f < 6 → ct s11 f 0 p = -1 ∨ (p < ct s11 f 0 p ∧ ct s11 f 0 p ≤ σ 1 4)) ∧ (UJ σ p s11 6 t → UI σ (p - 1) t)) := by
  obtain ⟨⟨t0, t1⟩, hT, hR⟩ := cgW hW
  obtain ⟨i1, i2, i3⟩ := hI
  have s1 : s 1 = σ 1 := i2 1 (by decide) (by decide) (by decide) (by decide)
  have s3 : s 3 = σ 3 := i2 3 (by decide) (by decide) (by decide) (by decide)
  have v54 := run_mark (p := p) 53 48 57 (by decide) s1 s3 hp hpl t1 (fun q a b => (i3 q a b).2.2.1)
  have v56 := run_mark (p := p) 55 97 122 (by decide) s1 s3 hp hpl t1 (fun q a b => (i3 q a b).2.2.2)
  have e8 : s8 = up (up s 54 p (runE (cg σ 1) 48 57 p)) 56 p (runE (cg σ 1) 97 122 p) := by
    rw [e8, ← v54, ← v56]
    rfl
  have b54 := runE_b (g := cg σ 1) (lo := 48) (hi := 57) hpl
  have b56 := runE_b (g := cg σ 1) (lo := 97) (hi := 122) hpl
  rw [cg_L] at b54 b56
  have r8 : ∀ q, q ≠ 54 → q ≠ 56 → s8 q = s q := fun q a b => by rw [e8, up_n _ _ _ b, up_n _ _ _ a]
  have r54 : s8 54 = ui (s 54) p (runE (cg σ 1) 48 57 p) := by rw [e8, up_n _ _ _ (by decide), up_s]
  have r56 : s8 56 = ui (s 56) p (runE (cg σ 1) 97 122 p) := by rw [e8, up_s, up_n _ _ _ (by decide)]
  have m8 : MB s8 := by
    refine ⟨fun j => ?_, fun j => ?_, fun j => ?_, fun j => ?_⟩
    · rw [r54]; unfold ui; split
      · omega
      · exact i1.1 j
    · rw [r56]; unfold ui; split
      · omega
      · exact i1.2.1 j
    · rw [r8 58 (by decide) (by decide)]; exact i1.2.2.1 j
    · rw [r8 60 (by decide) (by decide)]; exact i1.2.2.2 j
  refine ⟨⟨m8, r8, by rw [r54, ui_s], by rw [r56, ui_s], fun j a => ⟨by rw [r54, ui_n _ _ a], by rw [r56, ui_n _ _ a]⟩⟩, fun hpost => ?_⟩
  obtain ⟨g1, g2, g3, g4, g5, g6⟩ := hpost
  have a8 : ∀ q, q ≠ 54 → q ≠ 56 → q ≠ 58 → q ≠ 60 → s8 q = σ q := fun q a b c e => by rw [r8 q a b]; exact i2 q a b c e
  have a11 : ∀ q, q ≠ 54 → q ≠ 56 → q ≠ 58 → q ≠ 60 → s11 q = σ q := fun q a b c e => by rw [g2 q c e]; exact a8 q a b c e
  have c8 : ct s8 = ct s := ct_row (r8 60 (by decide) (by decide))
  have cg8 : cg s8 1 = cg σ 1 := cg_congr (fun q a b => a8 q (by omega) (by omega) (by omega) (by omega))
  have cg11 : cg s11 1 = cg σ 1 := cg_congr (fun q a b => a11 q (by omega) (by omega) (by omega) (by omega))
  have BD := bnd hW (p := p) (by omega) (fun q a b => (i3 q a b).1)
  have z5 : s8 5 = σ 5 := a8 5 (by decide) (by decide) (by decide) (by decide)
  have z7 : s8 7 = σ 7 := a8 7 (by decide) (by decide) (by decide) (by decide)
  have isl : ∀ r, 0 ≤ r → r < 6 → (ct s11 r 0 p = -1 ∨ (p < ct s11 r 0 p ∧ ct s11 r 0 p ≤ σ 1 4)) ∧ (∀ T' : Tb, (∀ x, p < x → x ≤ σ 1 4 → T' r 1 x = ct s11 r 1 x) → ct s11 r 0 p = rhs (cg σ 1) T' r 0 p) := by
    intro r a b
    obtain ⟨⟨y0, y1⟩, ys, ye, yf⟩ := hR r a b
    have v := g5 r a b
    rw [z5, z7] at v
    unfold rhs
    rw [cg_s a b]
    show _ ∧ ∀ T' : Tb, _ → _ = if (0 : Int) = σ 5 r then _ else _
    by_cases k0 : σ 5 r ≤ 0
    · rw [if_pos k0] at v
      exact ⟨Or.inl v, fun T' _ => by rw [v, if_pos (show (0 : Int) = σ 5 r by omega), if_pos rfl]⟩
    · obtain ⟨f1, f2⟩ := yf (by omega)
      have eb := ye 0 (by decide) (by omega)
      have g0 : ge (cg σ 1) r 0 = σ 7 (r * 8 + 0) := cg_e a b (by decide) (by show 0 < σ 5 r; omega)
      have lk : ans_X2_elementEnd (σ 7 (r * 8 + 0)) p s8 = eE (cg σ 1) (ct s8) (σ 7 (r * 8 + 0)) p := by
        rw [← cg8]
        exact eE_lnk (by rw [cg8]; exact hW) hp eb.1 (by rw [cg8, r54, ui_s]) (by rw [cg8, r56, ui_s])
      have nr := eE_nr (g := cg σ 1) (T := ct s8) (e := σ 7 (r * 8 + 0)) (p := p) hpl f2
      rw [cg_L] at nr
      have ind : ∀ T' : Tb, eE (cg σ 1) T' (σ 7 (r * 8 + 0)) p = eE (cg σ 1) (ct s8) (σ 7 (r * 8 + 0)) p := fun T' => by
        unfold eE
        rw [if_neg f2, if_neg f2]
      rw [if_neg k0, lk] at v
      rw [g0]
      have n0 : ¬ (0 : Int) = σ 5 r := by omega
      rcases nr with nr | nr
      · have vv : ct s11 r 0 p = -1 := by
          rw [v, nr]
          rfl
        refine ⟨Or.inl vv, fun T' _ => ?_⟩
        rw [if_neg n0, if_neg f1, ind T', if_pos nr, vv]
      · have h1 : ct s11 r 1 (eE (cg σ 1) (ct s8) (σ 7 (r * 8 + 0)) p) = ct s8 r 1 (eE (cg σ 1) (ct s8) (σ 7 (r * 8 + 0)) p) := g4 r 1 _ a b (by decide) (by decide) (by omega) (by omega) (Or.inl (by decide))
        have vv : ct s11 r 0 p = ct s11 r 1 (eE (cg σ 1) (ct s8) (σ 7 (r * 8 + 0)) p) := by
          rw [v, tget_nn (by omega), h1]
        refine ⟨?_, fun T' hT' => ?_⟩
        · rw [vv, h1, c8]
          rw [c8] at nr
          rcases (BD _ _ (Nat.le_refl _) nr.1 nr.2).2 r a b 1 (by decide) (by rw [cg_s a b]; show 1 ≤ σ 5 r; omega) with u | u
          · exact Or.inl u
          · rw [cg_L] at u
            exact Or.inr ⟨by omega, u.2⟩
        · have nn : ¬ eE (cg σ 1) (ct s8) (σ 7 (r * 8 + 0)) p = -1 := by omega
          rw [if_neg n0, if_neg f1, ind T', if_neg nn, vv]
          exact (hT' _ nr.1 nr.2).symm
  refine ⟨a11, fun f a b => (isl f a b).1, fun hJ => ?_⟩
  obtain ⟨j1, j2, j3, j4⟩ := hJ
  have at' : ∀ q, q ≠ 54 → q ≠ 56 → q ≠ 58 → q ≠ 60 → t q = σ q := fun q a b c e => by rw [j2 q e]; exact a11 q a b c e
  have cgt : cg t 1 = cg σ 1 := cg_congr (fun q a b => at' q (by omega) (by omega) (by omega) (by omega))
  have ctq : ∀ r i x, 0 ≤ r → r < 6 → 0 ≤ i → i ≤ 8 → p < x → x ≤ σ 1 4 → ct t r i x = ct s r i x := fun r i x a b c e f g => by
    rw [j3 r i x a b c e (by omega) (by omega) (Or.inr (Or.inl (by omega))), g4 r i x a b c e (by omega) (by omega) (Or.inr (by omega)), c8]
  have t58 : t 58 = s11 58 := j2 58 (by decide)
  have t54 : t 54 = s8 54 := by rw [j2 54 (by decide), g2 54 (by decide) (by decide)]
  have t56 : t 56 = s8 56 := by rw [j2 56 (by decide), g2 56 (by decide) (by decide)]
  have f0 : ∀ r, 0 ≤ r → r < 6 → ct t r 0 p = ct s11 r 0 p := fun r a b => j3 r 0 p a b (by decide) (by decide) hp (by omega) (Or.inl rfl)
  have t58p : t 58 p = first (ct t) p := by
    rw [t58, g6]
    exact (first_congr f0).symm
  refine ⟨j1, at', fun q a b => ?_⟩
  by_cases qp : q = p
  · subst qp
    refine ⟨fun r c d i e f => ?_, t58p, by rw [t54, r54, ui_s], by rw [t56, r56, ui_s]⟩
    rw [cg_s c d] at f
    have f : i ≤ σ 5 r := f
    by_cases i0 : i = 0
    · subst i0
      rw [f0 r c d]
      refine (isl r c d).2 (ct t) (fun x g h => ?_)
      exact j3 r 1 x c d (by decide) (by decide) (by omega) (by omega) (Or.inr (Or.inl (by omega)))
    · rw [j4 r c d i (by omega) f, rst_lnk (by rw [cgt]; exact hW) j1 ⟨c, d⟩ (by omega) (by rw [at' 5 (by decide) (by decide) (by decide) (by decide)]; exact f) hp (by rw [at' 1 (by decide) (by decide) (by decide) (by decide)]; exact hpl) (by rw [cgt, t54, r54, ui_s]) (by rw [cgt, t56, r56, ui_s]) t58p, cgt]
  · obtain ⟨k1, k2, k3, k4⟩ := i3 q (by omega) b
    have hB := (BD _ q (Nat.le_refl _) (by omega) b).1
    refine ⟨goodAt_congr hW (by omega) b (fun r i x c d e f g h => ctq r i x c d e f (by omega) h) hB k1, ?_, by rw [t54, r54, ui_n _ _ qp]; exact k3, by rw [t56, r56, ui_n _ _ qp]; exact k4⟩
    rw [t58, g3 q qp, r8 58 (by decide) (by decide), k2]
    exact (first_congr (fun r c d => ctq r 0 q c d (by decide) (by decide) (by omega) b)).symm
theorem l_X2_update_8 (σ : St) (hW : gWF (cg σ 1)) (Q : St → Prop) (hQ : ∀ t, UI σ (-1) t → Q t) : ∀ (n : Nat) (p : Int) (s : St), (p + 1).toNat < n → -1 ≤ p → p ≤ σ 1 4 → UI σ p s → L_X2_update_8 Q n p s := by
  obtain ⟨⟨t0, t1⟩, hT, hR⟩ := cgW hW
  intro n
  induction n with
  | zero => intro p s hn; exact absurd hn (Nat.not_lt_zero _)
  | succ n ih =>
    intro p s hn h0 hl hI
    refine ⟨⟨by omega, by omega⟩, fun h => hQ s ?_, fun h => ?_⟩
    · rw [show p = -1 by omega] at hI
      exact hI
    · obtain ⟨i1, i2, i3⟩ := id hI
      have s1 : s 1 = σ 1 := i2 1 (by decide) (by decide) (by decide) (by decide)
      have s3 : s 3 = σ 3 := i2 3 (by decide) (by decide) (by decide) (by decide)
      refine ⟨⟨by omega, by omega, by rw [s1]; exact t0, by rw [s1]; exact t1, i1, fun a => ?_⟩, fun s8 e8 => ?_⟩
      · rw [s1] at a
        rw [s3]
        have := hT p (by omega) a
        exact ⟨by omega, by omega⟩
      · have u8 := (UI_step (s11 := s) (t := s) (by omega) hl hW hI e8).1
        have cg8 : cg s8 1 = cg σ 1 := cg_congr (fun q a b => by rw [u8.2.1 q (by omega) (by omega)]; exact i2 q (by omega) (by omega) (by omega) (by omega))
        refine ⟨⟨by omega, by omega, u8.1, by rw [cg8]; exact hW⟩, fun s11 hpost => ?_⟩
        obtain ⟨u11, une, -⟩ := (UI_step (s11 := s11) (t := s) (by omega) hl hW hI e8).2 hpost
        refine ⟨7, l_X2_update_24 σ p s11 ⟨by omega, by omega⟩ hW u11 (fun f a b => ?_) Q _ (fun t hJ => ?_) 7 0 s11 (by decide) (by decide) (by decide) ⟨hpost.1, fun _ _ => rfl, fun _ _ _ _ _ _ _ _ _ _ => rfl, fun r a b => absurd a (by omega)⟩⟩
        · rcases une f a b with z | z <;> omega
        · exact ih (p + (-1)) t (by omega) (by omega) (by omega) (((UI_step (s11 := s11) (t := t) (by omega) hl hW hI e8).2 hpost).2.2 hJ)
theorem v_X2_update (σ : St) (hp : pre_X2_update σ) : V_X2_update σ (post_X2_update σ) := by
  obtain ⟨hM, hW⟩ := hp
  obtain ⟨⟨t0, t1⟩, hT, hR⟩ := cgW hW
  refine ⟨trivial, fun r3 e3 => ?_⟩
  have e3 : r3 = σ 1 4 := e3
  refine ⟨(r3 + 1).toNat + 1, l_X2_update_8 σ hW _ (fun t hI => ?_) _ r3 σ (by omega) (by omega) (by omega) ⟨hM, fun _ _ _ _ _ => rfl, fun q a b => by omega⟩⟩
  obtain ⟨i1, i2, i3⟩ := hI
  exact ⟨i1, i2, fun q a b => (i3 q (by omega) b).1, fun q a b => (i3 q (by omega) b).2⟩
end
section
/-- what a well-formed grammar is in the reference's cells -/
theorem mgW {f : Int → Int} (h : gWF (mg f 0)) : (0 ≤ f 0 ∧ f 0 ≤ 100) ∧ (∀ p, 0 ≤ p → p < f 0 → 32 ≤ f (1 + p) ∧ f (1 + p) ≤ 126) ∧ ∀ r, 0 ≤ r → r < 6 → (0 ≤ f (101 + r) ∧ f (101 + r) ≤ 8) ∧ (f (155 + r) = -1 ∨ (32 ≤ f (155 + r) ∧ f (155 + r) ≤ 126)) ∧ (∀ i, 0 ≤ i → i < f (101 + r) → 32 ≤ f (107 + 8 * r + i) ∧ f (107 + 8 * r + i) ≤ 126) ∧ (0 < f (101 + r) → f (107 + 8 * r + 0) ≠ 126 ∧ ¬ (65 ≤ f (107 + 8 * r + 0) ∧ f (107 + 8 * r + 0) ≤ 70)) := by
  obtain ⟨h1, h2, h3⟩ := h
  refine ⟨h1, fun p a b => ?_, fun r a b => ?_⟩
  · have := h2 p a b
    rw [m7_t a b] at this
    exact this
  · obtain ⟨g1, g2, g3, g4⟩ := h3 r a b
    rw [m7_s a b] at g1 g3 g4
    rw [m7_p a b] at g2
    refine ⟨g1, g2, fun i c d => ?_, fun c => ?_⟩
    · have := g3 i c d
      rw [m7_e a b c d] at this
      exact this
    · have := g4 c
      rw [m7_e a b (by decide) c] at this
      exact this
theorem v_X7_isOf (x1 x2 x3 : Int) (σ : St) (hp : pre_X7_isOf x1 x2 x3 σ) : V_X7_isOf x1 x2 x3 σ (post_X7_isOf x1 x2 x3 σ) := by
  simp only [pre_X7_isOf] at hp
  unfold V_X7_isOf
  simp only [pre_X7_in, ans_X7_in, forall_eq, b01, b01R]
  repeat' first | exact trivial | refine And.intro ?_ ?_ | intro _
  all_goals try simp only [post_X7_isOf, ans_X7_isOf]
  all_goals repeat' split
  all_goals first | rfl | omega | (exfalso; omega)
theorem l_X7_runEnd (lo hi : Int) (σ : St) (hW : gWF (mg (σ 81) 0)) (hlo : inR lo) (hhi : inR hi) (Q : Int → St → Prop) : ∀ (n : Nat) (p : Int), (σ 81 0 - p).toNat < n → 0 ≤ p → p ≤ σ 81 0 → Q (RE (mg (σ 81) 0) lo hi p) σ → L_X7_runEnd_3 Q lo hi n p σ := by
  obtain ⟨⟨t0, t1⟩, hT, hR⟩ := mgW hW
  intro n
  induction n with
  | zero => intro p hn; exact absurd hn (Nat.not_lt_zero _)
  | succ n ih =>
    intro p hn h0 hl hQ
    refine ⟨⟨h0, by omega, t0, t1, hlo, hhi, fun a => ?_⟩, fun r er => ?_⟩
    · have := hT p h0 a
      exact ⟨by omega, by omega⟩
    · have er : r = if p < σ 81 0 ∧ lo ≤ σ 81 (1 + p) ∧ σ 81 (1 + p) ≤ hi then 1 else 0 := er
      by_cases c : p < σ 81 0 ∧ lo ≤ σ 81 (1 + p) ∧ σ 81 (1 + p) ≤ hi
      · rw [if_pos c] at er
        have c2 : p < gl (mg (σ 81) 0) ∧ lo ≤ gt (mg (σ 81) 0) p ∧ gt (mg (σ 81) 0) p ≤ hi := by rw [m7_t h0 c.1]; exact c
        rw [RE_step c2] at hQ
        exact ⟨by rw [er]; exact ⟨by decide, by decide⟩, fun z => absurd (er.symm.trans z) (by decide), fun _ => ih (p + 1) (by omega) (by omega) (by omega) hQ⟩
      · rw [if_neg c] at er
        have c2 : ¬ (p < gl (mg (σ 81) 0) ∧ lo ≤ gt (mg (σ 81) 0) p ∧ gt (mg (σ 81) 0) p ≤ hi) := fun z => by
          rw [m7_t h0 z.1] at z
          exact c z
        rw [RE_stop c2] at hQ
        exact ⟨by rw [er]; exact ⟨by decide, by decide⟩, fun _ => hQ, fun z => absurd er z⟩
theorem v_X7_runEnd (x1 x2 x3 : Int) (σ : St) (hp : pre_X7_runEnd x1 x2 x3 σ) : V_X7_runEnd x1 x2 x3 σ (post_X7_runEnd x1 x2 x3 σ) := by
  obtain ⟨p0, p1, hW, h2, h3⟩ := hp
  exact ⟨_, l_X7_runEnd x2 x3 σ hW h2 h3 _ ((σ 81 0 - x1).toNat + 1) x1 (by omega) p0 p1 ⟨rfl, rfl⟩⟩
theorem v_X7_elementEnd (x1 x2 : Int) (σ : St) (hp : pre_X7_elementEnd x1 x2 σ) : V_X7_elementEnd x1 x2 σ (post_X7_elementEnd x1 x2 σ) := by
  obtain ⟨p0, p1, p2, p3, hW⟩ := hp
  obtain ⟨⟨t0, t1⟩, hT, hR⟩ := mgW hW
  have run : ∀ lo hi : Int, inR lo → inR hi → pre_X7_runEnd x2 lo hi σ := fun lo hi a b => ⟨p2, p3, hW, a, b⟩
  have rb : ∀ lo hi : Int, x2 ≤ RE (mg (σ 81) 0) lo hi x2 ∧ RE (mg (σ 81) 0) lo hi x2 ≤ σ 81 0 := fun lo hi => ⟨RE_ge _ lo hi _ x2 rfl, RE_le _ lo hi _ x2 rfl p3⟩
  have of : pre_X7_isOf x2 x1 x1 σ := ⟨p2, by omega, t0, t1, ⟨by omega, by omega⟩, ⟨by omega, by omega⟩, fun a => by have := hT x2 p2 a; exact ⟨by omega, by omega⟩⟩
  have fin : ∀ lo hi : Int, inR lo → inR hi → (eE (mg (σ 81) 0) (mt σ) x1 x2 = runE (mg (σ 81) 0) lo hi x2) → (pre_X7_runEnd x2 lo hi σ ∧ (∀ r : Int, r = ans_X7_runEnd x2 lo hi σ → (inR r ∧ (inR x2 ∧ ((r ≤ x2 → post_X7_elementEnd x1 x2 σ (-1) σ) ∧ (¬ (r ≤ x2) → post_X7_elementEnd x1 x2 σ r σ)))))) := by
    intro lo hi a b e
    refine ⟨run lo hi a b, fun r er => ?_⟩
    have er : r = RE (mg (σ 81) 0) lo hi x2 := er
    have := rb lo hi
    refine ⟨by rw [er]; exact ⟨by omega, by omega⟩, ⟨by omega, by omega⟩, fun c => ⟨?_, rfl⟩, fun c => ⟨?_, rfl⟩⟩
    · show -1 = eE _ _ _ _
      rw [e]
      unfold runE
      rw [← er, if_neg (by omega)]
    · show r = eE _ _ _ _
      rw [e]
      unfold runE
      rw [← er, if_pos (by omega)]
  refine ⟨⟨by omega, by omega⟩, fun r4 e4 => ?_⟩
  have e4 : r4 = if 65 ≤ x1 ∧ x1 ≤ 70 then 1 else 0 := e4
  by_cases c : 65 ≤ x1 ∧ x1 ≤ 70
  · rw [if_pos c] at e4
    refine ⟨by rw [e4]; exact ⟨by decide, by decide⟩, fun z => absurd (e4.symm.trans z) (by decide), fun _ => ⟨trivial, fun r49 e49 => ?_⟩⟩
    have e49 : r49 = 101 * (9 * (x1 - 65) + 0) + x2 := e49
    refine ⟨⟨by omega, by omega⟩, ?_, rfl⟩
    show _ = eE _ _ _ _
    unfold eE
    rw [if_pos c, e49]
    rfl
  · rw [if_neg c] at e4
    refine ⟨by rw [e4]; exact ⟨by decide, by decide⟩, fun _ => ⟨⟨by omega, by omega⟩, fun a => ⟨fun z => absurd a z, fun _ => fin 48 57 (by decide) (by decide) (by unfold eE; rw [if_neg c, if_pos a])⟩, fun a => ⟨fun b => ⟨of, fun r er => ?_⟩, fun b => ⟨fun _ => fin 97 122 (by decide) (by decide) (by unfold eE; rw [if_neg c, if_neg a, if_pos b]), fun z => absurd z a⟩⟩⟩, fun z => absurd e4 z⟩
    have er : r = if x2 < σ 81 0 ∧ x1 ≤ σ 81 (1 + x2) ∧ σ 81 (1 + x2) ≤ x1 then 1 else 0 := er
    have ee : eE (mg (σ 81) 0) (mt σ) x1 x2 = if x2 < σ 81 0 ∧ x1 ≤ σ 81 (1 + x2) ∧ σ 81 (1 + x2) ≤ x1 then x2 + 1 else -1 := by
      unfold eE
      rw [if_neg c, if_neg a, if_neg b]
      by_cases d : x2 < σ 81 0
      · rw [m7_t p2 d]
        by_cases f : σ 81 (1 + x2) = x1
        · rw [if_pos (show x2 < gl (mg (σ 81) 0) ∧ σ 81 (1 + x2) = x1 from ⟨d, f⟩), if_pos ⟨d, by omega, by omega⟩]
        · rw [if_neg (fun z => f z.2), if_neg (by omega)]
      · rw [if_neg (fun z => d z.1), if_neg (fun z => d z.1)]
    by_cases d : x2 < σ 81 0 ∧ x1 ≤ σ 81 (1 + x2) ∧ σ 81 (1 + x2) ≤ x1
    · rw [if_pos d] at er ee
      exact ⟨by rw [er]; exact ⟨by decide, by decide⟩, fun z => absurd (er.symm.trans z) (by decide), fun _ => ⟨ee.symm, rfl⟩⟩
    · rw [if_neg d] at er ee
      exact ⟨by rw [er]; exact ⟨by decide, by decide⟩, fun _ => ⟨ee.symm, rfl⟩, fun z => absurd er z⟩
theorem l_X7_islandAt (p : Int) (σ : St) (h0 : 0 ≤ p) (h1 : p ≤ 100) (hM : M8 σ) (Q : Int → St → Prop) (hQ : Q (first (mt σ) p) σ) : ∀ (n : Nat) (y : Int), (6 - y).toNat < n → 0 ≤ y → y ≤ 6 → (∀ r, 0 ≤ r → r < y → mt σ r 0 p = -1) → L_X7_islandAt_2 Q p n y σ := by
  intro n
  induction n with
  | zero => intro y hn; exact absurd hn (Nat.not_lt_zero _)
  | succ n ih =>
    intro y hn hy hy6 hI
    refine ⟨⟨by omega, by omega⟩, fun c => ?_, fun c => ⟨trivial, fun r6 e6 => ?_⟩⟩
    · rw [← isF_first (T := mt σ) (p := p) (v := -1) (Or.inl ⟨rfl, fun r a b => hI r (by omega) (by omega)⟩)] at hQ
      exact hQ
    · have e6 : r6 = 101 * (9 * y + 0) + p := e6
      have hm := hM r6
      have ev : σ 85 r6 = mt σ y 0 p := by rw [e6]; rfl
      refine ⟨⟨by omega, by omega⟩, ⟨by omega, by omega⟩, fun d => ih (y + 1) (by omega) (by omega) (by omega) (fun r a b => ?_), fun d => ?_⟩
      · by_cases z : r = y
        · subst z
          rw [← ev]
          exact d
        · exact hI r a (by omega)
      · rw [← isF_first (T := mt σ) (p := p) (v := y) (Or.inr ⟨by omega, by omega, by rw [← ev]; exact d, fun r a b => hI r (by omega) b⟩)] at hQ
        exact hQ
theorem v_X7_islandAt (x1 : Int) (σ : St) (hp : pre_X7_islandAt x1 σ) : V_X7_islandAt x1 σ (post_X7_islandAt x1 σ) := by
  obtain ⟨p0, p1, hM⟩ := hp
  exact ⟨7, l_X7_islandAt x1 σ p0 p1 hM _ ⟨rfl, rfl⟩ 7 0 (by decide) (by decide) (by decide) (fun r a b => absurd a (by omega))⟩
theorem v_X7_waterEnd (x1 x2 x3 : Int) (σ : St) (hp : pre_X7_waterEnd x1 x2 x3 σ) : V_X7_waterEnd x1 x2 x3 σ (post_X7_waterEnd x1 x2 x3 σ) := by
  obtain ⟨p0, p1, p2, p3, p4, p5, hW, hM⟩ := hp
  obtain ⟨⟨t0, t1⟩, hT, hR⟩ := mgW hW
  obtain ⟨⟨z0, z1⟩, zs, ze, zf⟩ := hR x1 p0 p1
  refine ⟨trivial, fun r4 e4 => ?_⟩
  have e4 : r4 = 101 * (9 * x1 + (x2 + 1)) + x3 := e4
  have hm := hM r4
  have ev : σ 85 r4 = mt σ x1 (x2 + 1) x3 := by rw [e4]; rfl
  refine ⟨⟨by omega, by omega⟩, ⟨by omega, by omega⟩, fun a => ⟨⟨p4, by omega, hM⟩, fun r11 e11 => ?_⟩, fun a => ⟨?_, rfl⟩⟩
  · have an : ¬ mt σ x1 (x2 + 1) x3 ≠ -1 := fun z => z (ev.symm.trans a)
    have e11 : r11 = first (mt σ) x3 := e11
    have fr := first_rng (mt σ) x3
    rw [← e11] at fr
    refine ⟨⟨by omega, by omega⟩, fun b => ⟨⟨by omega, by omega⟩, ⟨by omega, by omega⟩, fun c => ⟨?_, rfl⟩, fun c => ⟨⟨by omega, by omega⟩, ⟨by omega, by omega⟩, ?_, ⟨by omega, by omega⟩, fun d => ⟨trivial, fun r25 e25 => ?_⟩, fun d => ⟨?_, rfl⟩⟩⟩, fun b => ⟨trivial, fun r30 e30 => ?_⟩⟩
    · show -1 = ans_X7_waterEnd x1 x2 x3 σ
      unfold ans_X7_waterEnd
      rw [if_neg an, ← e11, if_neg (fun z => z b)]
      exact (if_pos (Or.inl c)).symm
    · have := hT x3 p4 (by omega)
      exact ⟨by omega, by omega⟩
    · have e25 : r25 = 101 * (9 * x1 + x2) + (x3 + 1) := e25
      refine ⟨⟨by omega, by omega⟩, ?_, rfl⟩
      show σ 85 r25 = ans_X7_waterEnd x1 x2 x3 σ
      unfold ans_X7_waterEnd
      rw [if_neg an, ← e11, if_neg (fun z => z b), m7_t p4 (by omega), m7_p p0 p1, e25]
      refine (if_neg ?_).symm
      rintro (z | z)
      · exact c z
      · exact d z
    · show -1 = ans_X7_waterEnd x1 x2 x3 σ
      unfold ans_X7_waterEnd
      rw [if_neg an, ← e11, if_neg (fun z => z b), m7_t p4 (by omega), m7_p p0 p1]
      exact (if_pos (Or.inr d)).symm
    · have e30 : r30 = 101 * (9 * r11 + 0) + x3 := e30
      have fr := fr.resolve_left b
      have ev2 : σ 85 r30 = mt σ r11 0 x3 := by rw [e30]; rfl
      have hm2 := hM r30
      refine ⟨⟨by omega, by omega⟩, trivial, fun r35 e35 => ?_⟩
      have e35 : r35 = 101 * (9 * x1 + x2) + σ 85 r30 := e35
      have nn : 0 ≤ σ 85 r30 := by
        have := fr.2.2
        rw [← ev2] at this
        omega
      refine ⟨⟨by omega, by omega⟩, ?_, rfl⟩
      show σ 85 r35 = ans_X7_waterEnd x1 x2 x3 σ
      unfold ans_X7_waterEnd
      rw [if_neg an, ← e11, if_pos b, ← ev2, e35]
      rfl
  · show σ 85 r4 = ans_X7_waterEnd x1 x2 x3 σ
    unfold ans_X7_waterEnd
    rw [← ev, if_pos a]
theorem v_X7_suffixEnd (x1 x2 x3 : Int) (σ : St) (hp : pre_X7_suffixEnd x1 x2 x3 σ) : V_X7_suffixEnd x1 x2 x3 σ (post_X7_suffixEnd x1 x2 x3 σ) := by
  obtain ⟨p0, p1, p2, p3, p4, p5, hW, hM⟩ := hp
  obtain ⟨⟨t0, t1⟩, hT, hR⟩ := mgW hW
  obtain ⟨⟨z0, z1⟩, zs, ze, zf⟩ := hR x1 p0 p1
  have gz : gs (mg (σ 81) 0) x1 = σ 81 (101 + x1) := m7_s p0 p1
  refine ⟨⟨by omega, by omega⟩, ⟨by omega, by omega⟩, ⟨by omega, by omega⟩, fun a => ⟨⟨p0, p1, p2, by omega⟩, fun r8 e8 => ?_⟩, fun a => ⟨fun b => ⟨?_, rfl⟩, fun b => ⟨?_, rfl⟩⟩⟩
  · have e8 : r8 = σ 81 (107 + 8 * x1 + x2) := e8
    have el : ge (mg (σ 81) 0) x1 x2 = r8 := by rw [e8]; exact m7_e p0 p1 p2 (by omega)
    have eb := ze x2 p2 (by omega)
    rw [← e8] at eb
    refine ⟨⟨by omega, by omega⟩, fun b => ⟨⟨eb.1, eb.2, p4, p5, hW⟩, fun r14 e14 => ?_⟩, fun b => ⟨⟨p0, p1, p2, by omega, p4, p5, hW, hM⟩, fun r25 e25 => ⟨?_, rfl⟩⟩⟩
    · have e14 : r14 = eE (mg (σ 81) 0) (mt σ) r8 x3 := e14
      have e0 : ∀ r, 0 ≤ r → r < 6 → -1 ≤ mt σ r 0 x3 ∧ mt σ r 0 x3 ≤ 100 := fun r _ _ => hM _
      have rb : -1 ≤ r14 ∧ r14 ≤ 100 := by
        rw [e14]
        unfold eE
        split
        · exact e0 _ (by omega) (by omega)
        · have h1 := runE_b (g := mg (σ 81) 0) (lo := 48) (hi := 57) (p := x3) p5
          have h2 := runE_b (g := mg (σ 81) 0) (lo := 97) (hi := 122) (p := x3) p5
          rw [mg_L] at h1 h2
          split
          · omega
          · split
            · omega
            · split
              · next h => have := h.1; rw [mg_L] at this; omega
              · omega
      refine ⟨⟨by omega, by omega⟩, fun c => ⟨trivial, fun r20 e20 => ?_⟩, fun c => ⟨?_, rfl⟩⟩
      · have e20 : r20 = 101 * (9 * x1 + (x2 + 1)) + r14 := e20
        refine ⟨⟨by omega, by omega⟩, ?_, rfl⟩
        show σ 85 r20 = rhs (mg (σ 81) 0) (mt σ) x1 x2 x3
        unfold rhs
        rw [gz, if_neg a, el, if_neg b, ← e14, if_neg c, e20]
        rfl
      · show -1 = rhs (mg (σ 81) 0) (mt σ) x1 x2 x3
        unfold rhs
        rw [gz, if_neg a, el, if_neg b, ← e14, if_pos c]
    · show r25 = rhs (mg (σ 81) 0) (mt σ) x1 x2 x3
      unfold rhs
      rw [gz, if_neg a, el, if_pos b, e25]
      rfl
  · show x3 = rhs (mg (σ 81) 0) (mt σ) x1 x2 x3
    unfold rhs
    rw [gz, if_pos a, if_neg b]
  · show -1 = rhs (mg (σ 81) 0) (mt σ) x1 x2 x3
    unfold rhs
    rw [gz, if_pos a, if_pos b]
end
section
theorem mt_up {s : St} {r i p r2 i2 p2 v : Int} (hi : 0 ≤ i ∧ i ≤ 8) (hp : 0 ≤ p ∧ p ≤ 100) (hi2 : 0 ≤ i2 ∧ i2 ≤ 8) (hp2 : 0 ≤ p2 ∧ p2 ≤ 100) : mt (up s 85 (101 * (9 * r + i) + p) v) r2 i2 p2 = if r2 = r ∧ i2 = i ∧ p2 = p then v else mt s r2 i2 p2 := by
  unfold mt
  rw [up_s]
  unfold ui
  by_cases h : r2 = r ∧ i2 = i ∧ p2 = p
  · obtain ⟨rfl, rfl, rfl⟩ := h
    rw [if_pos rfl, if_pos ⟨rfl, rfl, rfl⟩]
  · rw [if_neg h, if_neg]
    intro z
    have := mcell_inj z hi2 hp2 hi hp
    exact h ⟨by omega, by omega, by omega⟩
theorem M8_up {s : St} (h : M8 s) {j v : Int} (hv : -1 ≤ v ∧ v ≤ 100) : M8 (up s 85 j v) := fun q => by
  rw [up_s]
  unfold ui
  split
  · exact hv
  · exact h q
/-- a whole island's end reads later places alone -/
theorem rhs0 {g : Gr} (hW : gWF g) {r q : Int} (hr : 0 ≤ r ∧ r < 6) (hq0 : 0 ≤ q) (hq : q ≤ gl g) : (∀ T T' : Tb, (∀ x, q < x → x ≤ gl g → T' r 1 x = T r 1 x) → rhs g T' r 0 q = rhs g T r 0 q) ∧ (∀ T : Tb, (∀ x, 1 ≤ gs g r → q < x → x ≤ gl g → T r 1 x = -1 ∨ (x ≤ T r 1 x ∧ T r 1 x ≤ gl g)) → rhs g T r 0 q = -1 ∨ (q < rhs g T r 0 q ∧ rhs g T r 0 q ≤ gl g)) := by
  obtain ⟨hL, ht, hR⟩ := hW
  obtain ⟨⟨z0, z1⟩, z2, z3, z4⟩ := hR r hr.1 hr.2
  by_cases c : (0 : Int) = gs g r
  · have h : ∀ T : Tb, rhs g T r 0 q = -1 := fun T => by
      unfold rhs
      rw [if_pos c, if_pos rfl]
    exact ⟨fun T T' _ => by rw [h, h], fun T _ => Or.inl (h T)⟩
  · obtain ⟨f1, f2⟩ := z4 (by omega)
    have ind : ∀ T T' : Tb, eE g T' (ge g r 0) q = eE g T (ge g r 0) q := fun T T' => by
      unfold eE
      rw [if_neg f2, if_neg f2]
    have h : ∀ T : Tb, rhs g T r 0 q = if eE g T (ge g r 0) q = -1 then -1 else T r (0 + 1) (eE g T (ge g r 0) q) := fun T => by
      unfold rhs
      rw [if_neg c, if_neg f1]
    refine ⟨fun T T' hA => ?_, fun T hA => ?_⟩
    · rw [h T, h T', ind T T']
      rcases eE_nr (g := g) (T := T) (e := ge g r 0) hq f2 with d | d
      · rw [if_pos d, if_pos d]
      · have un : ¬ eE g T (ge g r 0) q = -1 := by omega
        rw [if_neg un, if_neg un]
        exact hA _ d.1 d.2
    · rw [h T]
      rcases eE_nr (g := g) (T := T) (e := ge g r 0) hq f2 with d | d
      · rw [if_pos d]
        exact Or.inl rfl
      · have un : ¬ eE g T (ge g r 0) q = -1 := by omega
        rw [if_neg un]
        rcases hA _ (by omega) d.1 d.2 with e | e
        · exact Or.inl e
        · exact Or.inr ⟨by show q < T r 1 _; omega, e.2⟩
theorem rhs_congr {g : Gr} {T T' : Tb} (hW : gWF g) {r i q : Int} (hr : 0 ≤ r ∧ r < 6) (hi : 0 ≤ i) (hi2 : i ≤ gs g r) (hq0 : 0 ≤ q) (hq : q ≤ gl g) (h0 : ∀ k, 0 ≤ k → k < 6 → T' k 0 q = T k 0 q) (h1 : i < gs g r → T' r (i + 1) q = T r (i + 1) q) (hA : ∀ i' x, 0 ≤ i' → i' ≤ 8 → q < x → x ≤ gl g → T' r i' x = T r i' x) (hB : ∀ k, 0 ≤ k → k < 6 → T k 0 q = -1 ∨ (q < T k 0 q ∧ T k 0 q ≤ gl g)) : rhs g T' r i q = rhs g T r i q := by
  obtain ⟨hL, ht, hR⟩ := hW
  obtain ⟨⟨z0, z1⟩, z2, z3, z4⟩ := hR r hr.1 hr.2
  unfold rhs
  by_cases e : i = gs g r
  · rw [if_pos e, if_pos e]
  · rw [if_neg e, if_neg e]
    by_cases w : ge g r i = 126
    · rw [if_pos w, if_pos w, h1 (by omega), first_congr h0]
      by_cases x : T r (i + 1) q ≠ -1
      · rw [if_pos x, if_pos x]
      · rw [if_neg x, if_neg x]
        rcases first_rng T q with y | ⟨y1, y2, y3⟩
        · have yn : ¬ first T q ≠ -1 := fun z => z y
          rw [if_neg yn, if_neg yn]
          by_cases v : q = gl g ∨ gt g q = gp g r
          · rw [if_pos v, if_pos v]
          · rw [if_neg v, if_neg v, hA i (q + 1) hi (by omega) (by omega) (by omega)]
        · have yn : first T q ≠ -1 := by omega
          rw [if_pos yn, if_pos yn, h0 _ y1 y2]
          rcases hB _ y1 y2 with u | u
          · exact absurd u y3
          · rw [hA i _ hi (by omega) u.1 u.2]
    · rw [if_neg w, if_neg w, eE_congr h0]
      rcases eE_b (g := g) (T := T) (e := ge g r i) hq hB with u | u
      · rw [if_pos u, if_pos u]
      · have un : ¬ eE g T (ge g r i) q = -1 := by omega
        rw [if_neg un, if_neg un, hA (i + 1) _ (by omega) (by omega) u.1 u.2]
theorem rhs_b {g : Gr} {T : Tb} (hW : gWF g) (hT : ∀ r i x, -1 ≤ T r i x ∧ T r i x ≤ 100) {r i q : Int} (hq : 0 ≤ q) (hq2 : q ≤ 100) : -1 ≤ rhs g T r i q ∧ rhs g T r i q ≤ 100 := by
  unfold rhs
  split
  · split
    · exact ⟨by decide, by decide⟩
    · omega
  · split
    · split
      · exact hT _ _ _
      · split
        · exact hT _ _ _
        · split
          · exact ⟨by decide, by decide⟩
          · exact hT _ _ _
    · split
      · exact ⟨by decide, by decide⟩
      · exact hT _ _ _
-- findEnds: p is the place; F1: whole islands of the rules below y; F2: the rests of rule r above i; F3: the rests of the rules below y
def F1 (g : Gr) (s0 : St) (p y : Int) (s : St) : Prop := M8 s ∧ (∀ q, q ≠ 85 → s q = s0 q) ∧ (∀ r i q, 0 ≤ r → r < 6 → 0 ≤ i → i ≤ 8 → 0 ≤ q → q ≤ 100 → (i ≠ 0 ∨ q ≠ p ∨ y ≤ r) → mt s r i q = mt s0 r i q) ∧ (∀ r, 0 ≤ r → r < y → mt s r 0 p = rhs g (mt s0) r 0 p)
def F2 (g : Gr) (s1 : St) (p r i : Int) (s : St) : Prop := M8 s ∧ (∀ q, q ≠ 85 → s q = s1 q) ∧ (∀ r' i' q, 0 ≤ r' → r' < 6 → 0 ≤ i' → i' ≤ 8 → 0 ≤ q → q ≤ 100 → (r' ≠ r ∨ i' = 0 ∨ q ≠ p ∨ i' ≤ i) → mt s r' i' q = mt s1 r' i' q) ∧ (∀ i', 1 ≤ i' → i < i' → i' ≤ gs g r → mt s r i' p = rhs g (mt s) r i' p)
def F3 (g : Gr) (s1 : St) (p y : Int) (s : St) : Prop := M8 s ∧ (∀ q, q ≠ 85 → s q = s1 q) ∧ (∀ r i q, 0 ≤ r → r < 6 → 0 ≤ i → i ≤ 8 → 0 ≤ q → q ≤ 100 → (i = 0 ∨ q ≠ p ∨ y ≤ r) → mt s r i q = mt s1 r i q) ∧ (∀ r, 0 ≤ r → r < y → ∀ i, 1 ≤ i → i ≤ gs g r → mt s r i p = rhs g (mt s) r i p)
theorem l_X7_findEnds_13 (s0 : St) (p : Int) (hW : gWF (mg (s0 81) 0)) (hp : 0 ≤ p) (hpl : p ≤ s0 81 0) (Q : St → Prop) (K : St → Prop) (hK : ∀ s, F1 (mg (s0 81) 0) s0 p 6 s → K s) : ∀ (n : Nat) (y : Int) (s : St), (6 - y).toNat < n → 0 ≤ y → y ≤ 6 → F1 (mg (s0 81) 0) s0 p y s → L_X7_findEnds_13 Q K p n y s := by
  obtain ⟨⟨t0, t1⟩, hT, hR⟩ := mgW hW
  intro n
  induction n with
  | zero => intro y s hn; exact absurd hn (Nat.not_lt_zero _)
  | succ n ih =>
    intro y s hn hy hy6 hI
    obtain ⟨i1, i2, i3, i4⟩ := id hI
    have s81 : s 81 = s0 81 := i2 81 (by decide)
    refine ⟨⟨by omega, by omega⟩, fun c => hK s ?_, fun c => ⟨trivial, fun r8 e8 => ⟨⟨hy, by omega, by decide, by rw [s81]; have := (hR y hy (by omega)).1; omega, hp, by rw [s81]; exact hpl, by rw [s81]; exact hW, i1⟩, fun r12 e12 => ?_⟩⟩⟩
    · rw [show y = 6 by omega] at hI
      exact hI
    · have e8 : r8 = 101 * (9 * y + 0) + p := e8
      have e12 : r12 = rhs (mg (s 81) 0) (mt s) y 0 p := e12
      rw [s81] at e12
      have e13 : rhs (mg (s0 81) 0) (mt s) y 0 p = rhs (mg (s0 81) 0) (mt s0) y 0 p := (rhs0 hW ⟨hy, by omega⟩ hp hpl).1 _ _ (fun x a b => i3 y 1 x hy (by omega) (by decide) (by decide) (by omega) (by rw [mg_L] at b; omega) (Or.inl (by decide)))
      refine ⟨⟨by omega, by omega⟩, fun s14 e14 => ih (y + 1) s14 (by omega) (by omega) (by omega) ?_⟩
      have rb := rhs_b hW (fun r i x => i1 _) (T := mt s) (r := y) (i := 0) hp (by omega)
      rw [← e12] at rb
      have c0 : ∀ r i q : Int, 0 ≤ i → i ≤ 8 → 0 ≤ q → q ≤ 100 → mt s14 r i q = if r = y ∧ i = 0 ∧ q = p then r12 else mt s r i q := fun r i q a b c d => by
        rw [e14, e8]
        exact mt_up ⟨by decide, by decide⟩ ⟨hp, by omega⟩ ⟨a, b⟩ ⟨c, d⟩
      refine ⟨by rw [e14]; exact M8_up i1 rb, fun q a => by rw [e14, up_n _ _ _ a]; exact i2 q a, fun r i q a b c d e f g => ?_, fun r a b => ?_⟩
      · rw [c0 r i q c d e f, if_neg (by omega)]
        exact i3 r i q a b c d e f (by omega)
      · rw [c0 r 0 p (by decide) (by decide) hp (by omega)]
        by_cases z : r = y
        · subst z
          rw [if_pos ⟨rfl, rfl, rfl⟩, e12, e13]
        · rw [if_neg (fun h => z h.1)]
          exact i4 r a (by omega)
theorem l_X7_findEnds_61 (s1 : St) (p r : Int) (hW : gWF (mg (s1 81) 0)) (hp : 0 ≤ p) (hpl : p ≤ s1 81 0) (hr : 0 ≤ r ∧ r < 6) (hB : ∀ k, 0 ≤ k → k < 6 → mt s1 k 0 p = -1 ∨ (p < mt s1 k 0 p ∧ mt s1 k 0 p ≤ s1 81 0)) (Q : St → Prop) (K : St → Prop) (hK : ∀ s, F2 (mg (s1 81) 0) s1 p r 0 s → K s) : ∀ (n : Nat) (i : Int) (s : St), i.toNat < n → 0 ≤ i → i ≤ gs (mg (s1 81) 0) r → F2 (mg (s1 81) 0) s1 p r i s → L_X7_findEnds_61 Q K p r n i s := by
  obtain ⟨⟨t0, t1⟩, hT, hR⟩ := mgW hW
  have gz : gs (mg (s1 81) 0) r = s1 81 (101 + r) := m7_s hr.1 hr.2
  obtain ⟨⟨z0, z1⟩, zs, ze, zf⟩ := hR r hr.1 hr.2
  intro n
  induction n with
  | zero => intro y s hn; exact absurd hn (Nat.not_lt_zero _)
  | succ n ih =>
    intro i s hn hi hiz hI
    obtain ⟨i1, i2, i3, i4⟩ := id hI
    have s81 : s 81 = s1 81 := i2 81 (by decide)
    refine ⟨⟨by omega, by omega⟩, fun c => hK s ?_, fun c => ⟨trivial, fun r24 e24 => ⟨⟨hr.1, hr.2, by omega, by rw [s81, ← gz]; exact hiz, hp, by rw [s81]; exact hpl, by rw [s81]; exact hW, i1⟩, fun r28 e28 => ?_⟩⟩⟩
    · rw [show i = 0 by omega] at hI
      exact hI
    · have e24 : r24 = 101 * (9 * r + i) + p := e24
      have e28 : r28 = rhs (mg (s 81) 0) (mt s) r i p := e28
      rw [s81] at e28
      refine ⟨⟨by omega, by omega⟩, fun s30 e30 => ih (i + (-1)) s30 (by omega) (by omega) (by omega) ?_⟩
      have rb := rhs_b hW (fun r i x => i1 _) (T := mt s) (r := r) (i := i) hp (by omega)
      rw [← e28] at rb
      have c0 : ∀ r' i' q : Int, 0 ≤ i' → i' ≤ 8 → 0 ≤ q → q ≤ 100 → mt s30 r' i' q = if r' = r ∧ i' = i ∧ q = p then r28 else mt s r' i' q := fun r' i' q a b c d => by
        rw [e30, e24]
        exact mt_up ⟨by omega, by omega⟩ ⟨hp, by omega⟩ ⟨a, b⟩ ⟨c, d⟩
      refine ⟨by rw [e30]; exact M8_up i1 rb, fun q a => by rw [e30, up_n _ _ _ a]; exact i2 q a, fun r' i' q a b c d e f g => ?_, fun i' a b d => ?_⟩
      · rw [c0 r' i' q c d e f, if_neg (by omega)]
        exact i3 r' i' q a b c d e f (by omega)
      · have hc : rhs (mg (s1 81) 0) (mt s30) r i' p = rhs (mg (s1 81) 0) (mt s) r i' p := by
          refine rhs_congr hW hr (by omega) d hp hpl (fun k u v => ?_) (fun u => ?_) (fun i2 x u v w y => ?_) (fun k u v => ?_)
          · rw [c0 k 0 p (by decide) (by decide) hp (by omega), if_neg (by omega)]
          · rw [c0 r (i' + 1) p (by omega) (by omega) hp (by omega), if_neg (by omega)]
          · rw [mg_L] at y
            rw [c0 r i2 x u v (by omega) (by omega), if_neg (by omega)]
          · rw [i3 k 0 p u v (by decide) (by decide) hp (by omega) (Or.inr (Or.inl rfl))]
            exact hB k u v
        rw [hc]
        by_cases z : i' = i
        · subst z
          rw [c0 r i' p (by omega) (by omega) hp (by omega), if_pos ⟨rfl, rfl, rfl⟩, e28]
        · rw [c0 r i' p (by omega) (by omega) hp (by omega), if_neg (fun h => z h.2.1)]
          exact i4 i' a (by omega) d
theorem l_X7_findEnds_45 (s1 : St) (p : Int) (hW : gWF (mg (s1 81) 0)) (hp : 0 ≤ p) (hpl : p ≤ s1 81 0) (hB : ∀ k, 0 ≤ k → k < 6 → mt s1 k 0 p = -1 ∨ (p < mt s1 k 0 p ∧ mt s1 k 0 p ≤ s1 81 0)) (Q : St → Prop) (K : St → Prop) (hK : ∀ s, F3 (mg (s1 81) 0) s1 p 6 s → K s) : ∀ (n : Nat) (y : Int) (s : St), (6 - y).toNat < n → 0 ≤ y → y ≤ 6 → F3 (mg (s1 81) 0) s1 p y s → L_X7_findEnds_45 Q K p n y s := by
  obtain ⟨⟨t0, t1⟩, hT, hR⟩ := mgW hW
  intro n
  induction n with
  | zero => intro y s hn; exact absurd hn (Nat.not_lt_zero _)
  | succ n ih =>
    intro y s hn hy hy6 hI
    obtain ⟨i1, i2, i3, i4⟩ := id hI
    have s81 : s 81 = s1 81 := i2 81 (by decide)
    refine ⟨⟨by omega, by omega⟩, fun cc => hK s ?_, fun cc => ⟨⟨by omega, by omega⟩, ?_⟩⟩
    · rw [show y = 6 by omega] at hI
      exact hI
    · have hy5 : y < 6 := by omega
      have gz : gs (mg (s1 81) 0) y = s1 81 (101 + y) := m7_s hy hy5
      obtain ⟨⟨z0, z1⟩, zs, ze, zf⟩ := hR y hy hy5
      have hBs : ∀ k, 0 ≤ k → k < 6 → mt s k 0 p = -1 ∨ (p < mt s k 0 p ∧ mt s k 0 p ≤ s 81 0) := fun k u v => by
        rw [i3 k 0 p u v (by decide) (by decide) hp (by omega) (Or.inl rfl), s81]
        exact hB k u v
      refine ⟨9, l_X7_findEnds_61 s p y (by rw [s81]; exact hW) hp (by rw [s81]; exact hpl) ⟨hy, hy5⟩ hBs Q _ (fun t hF => ih (y + 1) t (by omega) (by omega) (by omega) ?_) 9 _ s (by rw [s81]; omega) (by rw [s81]; omega) (by rw [s81, gz]; omega) ⟨i1, fun _ _ => rfl, fun _ _ _ _ _ _ _ _ _ _ => rfl, fun i' a b d => by rw [s81] at b d; rw [gz] at d; omega⟩⟩
      obtain ⟨f1, f2, f3, f4⟩ := hF
      rw [s81] at f4
      refine ⟨f1, fun q a => by rw [f2 q a]; exact i2 q a, fun r i q a b c d e f g => ?_, fun r a b i c d => ?_⟩
      · rw [f3 r i q a b c d e f (by omega)]
        exact i3 r i q a b c d e f (by omega)
      · by_cases z : r = y
        · subst z
          exact f4 i c (by omega) d
        · have gr : gs (mg (s1 81) 0) r = s1 81 (101 + r) := m7_s a (by omega)
          have rz := (hR r a (by omega)).1
          rw [f3 r i p a (by omega) (by omega) (by omega) hp (by omega) (Or.inl z), i4 r a (by omega) i c d]
          refine (rhs_congr hW ⟨a, by omega⟩ (by omega) d hp hpl (fun k u v => ?_) (fun u => ?_) (fun i2 x u v w y => ?_) (fun k u v => ?_)).symm
          · exact f3 k 0 p u v (by decide) (by decide) hp (by omega) (Or.inr (Or.inl rfl))
          · exact f3 r (i + 1) p a (by omega) (by omega) (by omega) hp (by omega) (Or.inl z)
          · rw [mg_L] at y
            exact f3 r i2 x a (by omega) u v (by omega) (by omega) (Or.inl z)
          · rw [← s81]
            exact hBs k u v
def FQ (g : Gr) (σ : St) (p : Int) (s : St) : Prop := M8 s ∧ (∀ q, q ≠ 85 → s q = σ q) ∧ ∀ q, p < q → q ≤ gl g → GoodAt g (mt s) q
theorem l_X7_findEnds_7 (σ : St) (hW : gWF (mg (σ 81) 0)) (Q : St → Prop) (hQ : ∀ s, FQ (mg (σ 81) 0) σ (-1) s → Q s) : ∀ (n : Nat) (p : Int) (s : St), (p + 1).toNat < n → -1 ≤ p → p ≤ σ 81 0 → FQ (mg (σ 81) 0) σ p s → L_X7_findEnds_7 Q n p s := by
  obtain ⟨⟨t0, t1⟩, hT, hR⟩ := mgW hW
  intro n
  induction n with
  | zero => intro p s hn; exact absurd hn (Nat.not_lt_zero _)
  | succ n ih =>
    intro p s hn h0 hl hI
    obtain ⟨i1, i2, i3⟩ := id hI
    have s81 : s 81 = σ 81 := i2 81 (by decide)
    refine ⟨⟨by omega, by omega⟩, fun c => hQ s ?_, fun c => ?_⟩
    · rw [show p = -1 by omega] at hI
      exact hI
    · have hp : 0 ≤ p := by omega
      have BD := bnd hW (p := p) (by omega) i3
      refine ⟨7, l_X7_findEnds_13 s p (by rw [s81]; exact hW) hp (by rw [s81]; exact hl) Q _ (fun s1 hF1 => ?_) 7 0 s (by decide) (by decide) (by decide) ⟨i1, fun _ _ => rfl, fun _ _ _ _ _ _ _ _ _ _ => rfl, fun r a b => absurd a (by omega)⟩⟩
      obtain ⟨f1, f2, f3, f4⟩ := hF1
      rw [s81] at f4
      have s181 : s1 81 = σ 81 := by rw [f2 81 (by decide)]; exact s81
      have hB : ∀ k, 0 ≤ k → k < 6 → mt s1 k 0 p = -1 ∨ (p < mt s1 k 0 p ∧ mt s1 k 0 p ≤ σ 81 0) := fun k u v => by
        rw [f4 k u v]
        refine (rhs0 hW ⟨u, v⟩ hp hl).2 (mt s) (fun x z a b => ?_)
        exact (BD _ x (Nat.le_refl _) a b).2 k u v 1 (by decide) z
      refine ⟨7, l_X7_findEnds_45 s1 p (by rw [s181]; exact hW) hp (by rw [s181]; exact hl) (by rw [s181]; exact hB) Q _ (fun t hF3 => ih (p + (-1)) t (by omega) (by omega) (by omega) ?_) 7 0 s1 (by decide) (by decide) (by decide) ⟨f1, fun _ _ => rfl, fun _ _ _ _ _ _ _ _ _ _ => rfl, fun r a b => absurd a (by omega)⟩⟩
      obtain ⟨g1, g2, g3, g4⟩ := hF3
      rw [s181] at g4
      have ctq : ∀ r i x, 0 ≤ r → r < 6 → 0 ≤ i → i ≤ 8 → p < x → x ≤ σ 81 0 → mt t r i x = mt s r i x := fun r i x a b c d e f => by
        rw [g3 r i x a b c d (by omega) (by omega) (Or.inr (Or.inl (by omega))), f3 r i x a b c d (by omega) (by omega) (Or.inr (Or.inl (by omega)))]
      refine ⟨g1, fun q a => by rw [g2 q a, f2 q a]; exact i2 q a, fun q a b => ?_⟩
      by_cases qp : q = p
      · subst qp
        intro r u v i e f
        by_cases z : i = 0
        · subst z
          rw [g3 r 0 q u v (by decide) (by decide) hp (by rw [mg_L] at b; omega) (Or.inl rfl), f4 r u v]
          refine ((rhs0 hW ⟨u, v⟩ hp b).1 _ _ (fun x c d => ?_)).symm
          exact ctq r 1 x u v (by decide) (by decide) c d
        · exact g4 r u v i (by omega) f
      · have hBq := (BD _ q (Nat.le_refl _) (by omega) b).1
        exact goodAt_congr hW (by omega) b (fun r i x u v c d e f => ctq r i x u v c d (by omega) f) hBq (i3 q (by omega) b)
theorem v_X7_findEnds (σ : St) (hp : pre_X7_findEnds σ) : V_X7_findEnds σ (post_X7_findEnds σ) := by
  obtain ⟨hW, hM⟩ := hp
  obtain ⟨⟨t0, t1⟩, hT, hR⟩ := mgW hW
  refine ⟨(σ 81 0 + 1).toNat + 1, l_X7_findEnds_7 σ hW _ (fun s hF => ?_) _ (σ 81 0) σ (by omega) (by omega) (by omega) ⟨hM, fun _ _ => rfl, fun q a b => by rw [mg_L] at b; omega⟩⟩
  obtain ⟨f1, f2, f3⟩ := hF
  exact ⟨f1, f2, fun q a b => f3 q (by omega) b⟩
end
section
set_option maxHeartbeats 1000000 in
theorem v_X3_announce (x1 x2 x3 : Int) (σ : St) (hp : pre_X3_announce x1 x2 x3 σ) : V_X3_announce x1 x2 x3 σ (post_X3_announce x1 x2 x3 σ) := by
  simp only [pre_X3_announce] at hp
  unfold V_X3_announce
  try simp only [pre_X4_set, forall_eq, b01, b01R, Nat.reduceAdd]
  repeat' first | exact trivial | refine And.intro ?_ ?_ | intro _
  all_goals try simp only [post_X3_announce, eff_X3_announce, eff_X4_set, Nat.reduceAdd]
  all_goals repeat' split
  all_goals first | rfl | omega | (exfalso; omega)
set_option maxHeartbeats 1000000 in
theorem v_X3_takeTopLevel (x1 : Int) (σ : St) (hp : pre_X3_takeTopLevel x1 σ) : V_X3_takeTopLevel x1 σ (post_X3_takeTopLevel x1 σ) := by
  obtain ⟨p0, p1, hM, p2, p3⟩ := id hp
  have b58 := hM.2.2.1 x1
  have e1 : ans_X2_firstRule x1 σ = σ 58 x1 := if_pos (by omega)
  have e60 : ∀ τ : St, τ 60 = σ 60 → ∀ r, tget τ r 0 x1 = tget σ r 0 x1 := fun τ h r => by
    unfold tget
    rw [show ct τ = ct σ from by funext a b c; unfold ct; rw [h]]
  unfold V_X3_takeTopLevel
  simp only [pre_X2_firstRule, pre_X2_islandEnd, ans_X2_islandEnd, pre_X3_announce, forall_eq, e1, up_s, up_n _ _ _ (show (58 : Nat) ≠ 61 by decide)]
  refine ⟨⟨by omega, by omega⟩, ⟨by omega, by omega⟩, fun a => ⟨⟨p0, p1⟩, ⟨by omega, by omega, by omega, by omega⟩, ?_⟩, fun a => ⟨?_, ?_, ?_⟩⟩
  · refine ⟨?_, ?_⟩
    · show _ = ans_X3_takeTopLevel x1 σ
      unfold ans_X3_takeTopLevel
      rw [if_neg a]
      exact e60 _ (by unfold eff_X3_announce; rw [up_n _ _ _ (by decide), up_n _ _ _ (by decide), up_n _ _ _ (by decide), up_n _ _ _ (by decide)]) _
    · show _ = eff_X3_takeTopLevel x1 σ
      unfold eff_X3_takeTopLevel
      rw [if_neg a, ui_n _ _ (by decide)]
  · rw [ui_n _ _ (by decide), ui_n _ _ (by decide)]
    exact p2
  · rw [ui_s, ui_n _ _ (by decide)]
    exact p3
  · refine ⟨?_, ?_⟩
    · show _ = ans_X3_takeTopLevel x1 σ
      unfold ans_X3_takeTopLevel
      rw [if_pos a]
    · show _ = eff_X3_takeTopLevel x1 σ
      unfold eff_X3_takeTopLevel
      rw [if_pos a, ui_s, ui_n _ _ (by decide), ui_n _ _ (by decide), ui_n _ _ (by decide)]
set_option maxHeartbeats 1000000 in
theorem v_X3_total (σ : St) (hp : pre_X3_total σ) : V_X3_total σ (post_X3_total σ) := by
  simp only [pre_X3_total] at hp
  unfold V_X3_total
  try simp only [forall_eq, b01, b01R, Nat.reduceAdd]
  repeat' first | exact trivial | refine And.intro ?_ ?_ | intro _
  all_goals try simp only [post_X3_total, ans_X3_total, eff_X4_set, Nat.reduceAdd]
  all_goals repeat' split
  all_goals first | rfl | omega | (exfalso; omega)
set_option maxHeartbeats 1000000 in
theorem v_X3_topLevelTotal (σ : St) (hp : pre_X3_topLevelTotal σ) : V_X3_topLevelTotal σ (post_X3_topLevelTotal σ) := by
  simp only [pre_X3_topLevelTotal] at hp
  unfold V_X3_topLevelTotal
  try simp only [forall_eq, b01, b01R, Nat.reduceAdd]
  repeat' first | exact trivial | refine And.intro ?_ ?_ | intro _
  all_goals try simp only [post_X3_topLevelTotal, ans_X3_topLevelTotal, eff_X4_set, Nat.reduceAdd]
  all_goals repeat' split
  all_goals first | rfl | omega | (exfalso; omega)
set_option maxHeartbeats 1000000 in
theorem v_X3_topWater (σ : St) (hp : pre_X3_topWater σ) : V_X3_topWater σ (post_X3_topWater σ) := by
  simp only [pre_X3_topWater] at hp
  unfold V_X3_topWater
  try simp only [forall_eq, b01, b01R, Nat.reduceAdd]
  repeat' first | exact trivial | refine And.intro ?_ ?_ | intro _
  all_goals try simp only [post_X3_topWater, ans_X3_topWater, eff_X4_set, Nat.reduceAdd]
  all_goals repeat' split
  all_goals first | rfl | omega | (exfalso; omega)
set_option maxHeartbeats 1000000 in
theorem v_X3_longestTopWater (σ : St) (hp : pre_X3_longestTopWater σ) : V_X3_longestTopWater σ (post_X3_longestTopWater σ) := by
  simp only [pre_X3_longestTopWater] at hp
  unfold V_X3_longestTopWater
  try simp only [forall_eq, b01, b01R, Nat.reduceAdd]
  repeat' first | exact trivial | refine And.intro ?_ ?_ | intro _
  all_goals try simp only [post_X3_longestTopWater, ans_X3_longestTopWater, eff_X4_set, Nat.reduceAdd]
  all_goals repeat' split
  all_goals first | rfl | omega | (exfalso; omega)
set_option maxHeartbeats 1000000 in
theorem v_X3_has (x1 : Int) (σ : St) (hp : pre_X3_has x1 σ) : V_X3_has x1 σ (post_X3_has x1 σ) := by
  simp only [pre_X3_has] at hp
  unfold V_X3_has
  try simp only [forall_eq, b01, b01R, Nat.reduceAdd]
  repeat' first | exact trivial | refine And.intro ?_ ?_ | intro _
  all_goals try simp only [post_X3_has, ans_X3_has, eff_X4_set, Nat.reduceAdd]
  all_goals repeat' split
  all_goals first | rfl | omega | (exfalso; omega)
set_option maxHeartbeats 1000000 in
theorem v_X3_ruleOf (x1 : Int) (σ : St) (hp : pre_X3_ruleOf x1 σ) : V_X3_ruleOf x1 σ (post_X3_ruleOf x1 σ) := by
  simp only [pre_X3_ruleOf] at hp
  unfold V_X3_ruleOf
  try simp only [pre_X4_get, ans_X4_get, forall_eq, b01, b01R, Nat.reduceAdd]
  repeat' first | exact trivial | refine And.intro ?_ ?_ | intro _
  all_goals try simp only [post_X3_ruleOf, ans_X3_ruleOf, eff_X4_set, Nat.reduceAdd]
  all_goals repeat' split
  all_goals first | rfl | omega | (exfalso; omega)
set_option maxHeartbeats 1000000 in
theorem v_X3_startOf (x1 : Int) (σ : St) (hp : pre_X3_startOf x1 σ) : V_X3_startOf x1 σ (post_X3_startOf x1 σ) := by
  simp only [pre_X3_startOf] at hp
  unfold V_X3_startOf
  try simp only [pre_X4_get, ans_X4_get, forall_eq, b01, b01R, Nat.reduceAdd]
  repeat' first | exact trivial | refine And.intro ?_ ?_ | intro _
  all_goals try simp only [post_X3_startOf, ans_X3_startOf, eff_X4_set, Nat.reduceAdd]
  all_goals repeat' split
  all_goals first | rfl | omega | (exfalso; omega)
set_option maxHeartbeats 1000000 in
theorem v_X3_endOf (x1 : Int) (σ : St) (hp : pre_X3_endOf x1 σ) : V_X3_endOf x1 σ (post_X3_endOf x1 σ) := by
  simp only [pre_X3_endOf] at hp
  unfold V_X3_endOf
  try simp only [pre_X4_get, ans_X4_get, forall_eq, b01, b01R, Nat.reduceAdd]
  repeat' first | exact trivial | refine And.intro ?_ ?_ | intro _
  all_goals try simp only [post_X3_endOf, ans_X3_endOf, eff_X4_set, Nat.reduceAdd]
  all_goals repeat' split
  all_goals first | rfl | omega | (exfalso; omega)
set_option maxHeartbeats 1000000 in
theorem v_X3_parentOf (x1 : Int) (σ : St) (hp : pre_X3_parentOf x1 σ) : V_X3_parentOf x1 σ (post_X3_parentOf x1 σ) := by
  simp only [pre_X3_parentOf] at hp
  unfold V_X3_parentOf
  try simp only [pre_X4_get, ans_X4_get, forall_eq, b01, b01R, Nat.reduceAdd]
  repeat' first | exact trivial | refine And.intro ?_ ?_ | intro _
  all_goals try simp only [post_X3_parentOf, ans_X3_parentOf, eff_X4_set, Nat.reduceAdd]
  all_goals repeat' split
  all_goals first | rfl | omega | (exfalso; omega)
set_option maxHeartbeats 1000000 in
theorem v_X3_depthOf (x1 : Int) (σ : St) (hp : pre_X3_depthOf x1 σ) : V_X3_depthOf x1 σ (post_X3_depthOf x1 σ) := by
  simp only [pre_X3_depthOf] at hp
  unfold V_X3_depthOf
  try simp only [pre_X4_get, ans_X4_get, forall_eq, b01, b01R, Nat.reduceAdd]
  repeat' first | exact trivial | refine And.intro ?_ ?_ | intro _
  all_goals try simp only [post_X3_depthOf, ans_X3_depthOf, eff_X4_set, Nat.reduceAdd]
  all_goals repeat' split
  all_goals first | rfl | omega | (exfalso; omega)
set_option maxHeartbeats 1000000 in
theorem v_X3_waterOf (x1 : Int) (σ : St) (hp : pre_X3_waterOf x1 σ) : V_X3_waterOf x1 σ (post_X3_waterOf x1 σ) := by
  simp only [pre_X3_waterOf] at hp
  unfold V_X3_waterOf
  try simp only [pre_X4_get, ans_X4_get, forall_eq, b01, b01R, Nat.reduceAdd]
  repeat' first | exact trivial | refine And.intro ?_ ?_ | intro _
  all_goals try simp only [post_X3_waterOf, ans_X3_waterOf, eff_X4_set, Nat.reduceAdd]
  all_goals repeat' split
  all_goals first | rfl | omega | (exfalso; omega)
set_option maxHeartbeats 1000000 in
theorem v_X3_numberOf (x1 : Int) (σ : St) (hp : pre_X3_numberOf x1 σ) : V_X3_numberOf x1 σ (post_X3_numberOf x1 σ) := by
  simp only [pre_X3_numberOf] at hp
  unfold V_X3_numberOf
  try simp only [pre_X4_get, ans_X4_get, forall_eq, b01, b01R, Nat.reduceAdd]
  repeat' first | exact trivial | refine And.intro ?_ ?_ | intro _
  all_goals try simp only [post_X3_numberOf, ans_X3_numberOf, eff_X4_set, Nat.reduceAdd]
  all_goals repeat' split
  all_goals first | rfl | omega | (exfalso; omega)
end
section
theorem v_X3_clear (σ : St) (hp : pre_X3_clear σ) : V_X3_clear σ (post_X3_clear σ) := by
  refine ⟨trivial, fun s2 e2 s4 e4 s5 e5 s6 e6 s7 e7 s8 e8 => ?_⟩
  show s8 = eff_X3_clear σ
  rw [e8, e7, e6, e5, e4, e2]
  rfl
theorem v_X3_addNode (x1 : Int) (σ : St) (hp : pre_X3_addNode x1 σ) : V_X3_addNode x1 σ (post_X3_addNode x1 σ) := by
  obtain ⟨p0, p1, p2, p3, p4, p5, p6, p7⟩ := hp
  have s1 : ∀ (τ : St) (i v : Int) (k : Nat), 0 ≤ i → i < 100 → eff_X4_set k 100 i v τ = up τ (k + 1) i v := fun τ i v k a b => if_pos ⟨a, b⟩
  have q1 : ∀ (τ : St) (i : Int) (k : Nat), 0 ≤ i → i < 100 → ans_X4_get k 100 i τ = τ (k + 1) i := fun τ i k a b => if_pos ⟨a, b⟩
  have iR : ∀ i : Int, 0 ≤ i → i < 100 → inR i := fun i a b => ⟨by omega, by omega⟩
  have iN : inR (σ 61 11) := iR _ p2 p3
  have i1 : inR x1 := iR _ p0 p1
  refine ⟨i1, fun r3 e3 => ⟨i1, fun r7 e7 => ⟨iN, fun s10 e10 => ?_⟩⟩⟩
  rw [q1 _ _ _ p0 p1] at e3 e7
  have e3 : r3 = σ 77 x1 := e3
  have e7 : r7 = σ 79 x1 := e7
  rw [s1 _ _ _ _ p2 p3] at e10
  have n10 : s10 61 11 = σ 61 11 := by rw [e10, up_n _ _ _ (by decide)]
  refine ⟨by rw [n10]; exact iN, fun s13 e13 => ?_⟩
  rw [n10, s1 _ _ _ _ p2 p3] at e13
  have n13 : s13 61 11 = σ 61 11 := by rw [e13, up_n _ _ _ (by decide)]; exact n10
  have c13 : ∀ r, tget s13 r 0 x1 = tget σ r 0 x1 := fun r => by
    have : ct s13 = ct σ := by
      funext a b c
      unfold ct
      rw [e13, up_n _ _ _ (by decide), e10, up_n _ _ _ (by decide)]
    unfold tget
    rw [this]
  refine ⟨⟨by omega, by omega, by omega, by omega⟩, fun r17 e17 => ?_⟩
  have e17 : r17 = tget σ (σ 77 x1) 0 x1 := by rw [e17, e3]; exact c13 _
  refine ⟨by rw [n13]; exact iN, fun s20 e20 => ?_⟩
  rw [n13, s1 _ _ _ _ p2 p3] at e20
  have n20 : s20 61 11 = σ 61 11 := by rw [e20, up_n _ _ _ (by decide)]; exact n13
  refine ⟨by rw [n20]; exact iN, fun s23 e23 => ?_⟩
  rw [n20, s1 _ _ _ _ p2 p3] at e23
  have n23 : s23 61 11 = σ 61 11 := by rw [e23, up_n _ _ _ (by decide)]; exact n20
  have r71 : s23 71 = σ 71 := by
    rw [e23, up_n _ _ _ (by decide), e20, up_n _ _ _ (by decide), e13, up_n _ _ _ (by decide), e10, up_n _ _ _ (by decide)]
  have fin : ∀ (d : Int) (s32 : St), d = (if σ 79 x1 = -1 then 0 else σ 71 (σ 79 x1) + 1) → s32 = up s23 71 (σ 61 11) d → (pre_X4_set 72 100 (s32 61 11) 0 s32 ∧ (∀ s35 : St, s35 = eff_X4_set 72 100 (s32 61 11) 0 s32 → (pre_X4_set 74 100 (s35 61 11) (-1) s35 ∧ (∀ s38 : St, s38 = eff_X4_set 74 100 (s35 61 11) (-1) s35 → (∀ s40 : St, s40 = up s38 61 11 ((s38 61 11) + 1) → post_X3_addNode x1 σ s40))))) := by
    intro d s32 ed e32
    have n32 : s32 61 11 = σ 61 11 := by rw [e32, up_n _ _ _ (by decide)]; exact n23
    refine ⟨by rw [n32]; exact iN, fun s35 e35 => ?_⟩
    rw [n32, s1 _ _ _ _ p2 p3] at e35
    have n35 : s35 61 11 = σ 61 11 := by rw [e35, up_n _ _ _ (by decide)]; exact n32
    refine ⟨by rw [n35]; exact iN, fun s38 e38 s40 e40 => ?_⟩
    rw [n35, s1 _ _ _ _ p2 p3] at e38
    have n38 : s38 61 11 = σ 61 11 := by rw [e38, up_n _ _ _ (by decide)]; exact n35
    show s40 = eff_X3_addNode x1 σ
    rw [e40, n38, e38, e35, e32, ed, e23, e20, e13, e10, e3, e7, e17]
    rfl
  refine ⟨⟨by omega, by omega⟩, fun a => ⟨⟨by omega, by omega⟩, fun r29 e29 => ⟨by rw [n23]; exact iN, fun s32 e32 => ?_⟩⟩, fun a => ⟨by rw [n23]; exact iN, fun s32 e32 => ?_⟩⟩
  · rw [n23, s1 _ _ _ _ p2 p3] at e32
    rw [q1 _ _ _ (by omega) (by omega)] at e29
    refine fin (r29 + 1) s32 ?_ e32
    rw [if_neg (by rw [← e7]; exact a), e29, e7]
    show s23 71 _ + 1 = _
    rw [r71]
  · rw [n23, s1 _ _ _ _ p2 p3] at e32
    refine fin 0 s32 ?_ e32
    rw [if_pos (by rw [← e7]; exact a)]
theorem l_X5_numberBetween (σ : St) (x1 x2 : Int) (hp : pre_X5_numberBetween x1 x2 σ) (Q : Int → St → Prop) (hQ : Q (nb (σ 3) x1 (x2 - x1).toNat) σ) : ∀ (n : Nat) (v p : Int), (x2 - p).toNat < n → x1 ≤ p → p ≤ x2 → v = nb (σ 3) x1 (p - x1).toNat → L_X5_numberBetween_5 Q x2 n v p σ := by
  obtain ⟨p0, p1, p2, p3, p4⟩ := hp
  intro n
  induction n with
  | zero => intro v p hn; exact absurd hn (Nat.not_lt_zero _)
  | succ n ih =>
    intro v p hn h0 h1 hv
    have vb := nb_b (σ 3) x1 (p - x1).toNat
    rw [← hv] at vb
    refine ⟨⟨by omega, by omega⟩, ⟨by omega, by omega⟩, fun c => ?_, fun c => ⟨⟨by omega, by omega, by omega, by omega⟩, fun r er => ?_⟩⟩
    · rw [hv, show p = x2 by omega]
      exact hQ
    · have er : r = σ 3 p := by rw [er]; exact if_pos (by omega)
      have db := p4 p h0 (by omega)
      rw [← er] at db
      refine ⟨⟨by omega, by omega⟩, ih _ (p + 1) (by omega) (by omega) (by omega) ?_⟩
      obtain ⟨m, hm⟩ : ∃ m : Nat, (p - x1).toNat = m := ⟨_, rfl⟩
      rw [show (p + 1 - x1).toNat = m + 1 by omega]
      show _ = (nb (σ 3) x1 m * 10 + σ 3 (x1 + m) - 48) % 1000000
      rw [hv, hm, er, show x1 + (m : Int) = p by omega]
theorem v_X5_numberBetween (x1 x2 : Int) (σ : St) (hp : pre_X5_numberBetween x1 x2 σ) : V_X5_numberBetween x1 x2 σ (post_X5_numberBetween x1 x2 σ) := by
  obtain ⟨p0, p1, p2, p3, p4⟩ := id hp
  exact ⟨(x2 - x1).toNat + 1, l_X5_numberBetween σ x1 x2 hp _ ⟨rfl, rfl⟩ _ 0 x1 (by omega) (by omega) (by omega) (by rw [show (x1 - x1).toNat = 0 by omega]; rfl)⟩
theorem CW_keep {g : Gr} {T : Tb} {σ0 σ : St} {j r : Int} {x : Int × Int} {n : Nat} (h : CW g T σ0 j r x n σ) : σ 1 = σ0 1 ∧ σ 3 = σ0 3 ∧ σ 5 = σ0 5 ∧ σ 7 = σ0 7 ∧ σ 9 = σ0 9 ∧ σ 54 = σ0 54 ∧ σ 56 = σ0 56 ∧ σ 58 = σ0 58 ∧ σ 60 = σ0 60 ∧ σ 61 = σ0 61 ∧ σ 63 = σ0 63 ∧ σ 65 = σ0 65 :=
  ⟨h.1 1 (by decide) (by decide) (by decide) (by decide), h.1 3 (by decide) (by decide) (by decide) (by decide), h.1 5 (by decide) (by decide) (by decide) (by decide), h.1 7 (by decide) (by decide) (by decide) (by decide), h.1 9 (by decide) (by decide) (by decide) (by decide), h.1 54 (by decide) (by decide) (by decide) (by decide), h.1 56 (by decide) (by decide) (by decide) (by decide), h.1 58 (by decide) (by decide) (by decide) (by decide), h.1 60 (by decide) (by decide) (by decide) (by decide), h.1 61 (by decide) (by decide) (by decide) (by decide), h.1 63 (by decide) (by decide) (by decide) (by decide), h.1 65 (by decide) (by decide) (by decide) (by decide)⟩
theorem MB_rows {s σ : St} (h : MB σ) (h54 : s 54 = σ 54) (h56 : s 56 = σ 56) (h58 : s 58 = σ 58) (h60 : s 60 = σ 60) : MB s := by
  unfold MB
  rw [h54, h56, h58, h60]
  exact h
theorem cg_rows {s σ : St} (h1 : s 1 = σ 1) (h3 : s 3 = σ 3) (h5 : s 5 = σ 5) (h7 : s 7 = σ 7) (h9 : s 9 = σ 9) : cg s 1 = cg σ 1 := by
  unfold cg
  rw [h1, h3, h5, h7, h9]
theorem l_X3_walkWater (σ : St) (x1 x2 x3 : Int) (hp : pre_X3_walkWater x1 x2 x3 σ) (Q : Int → St → Prop) (hQ : ∀ r s, post_X3_walkWater x1 x2 x3 σ r s → Q r s) : ∀ (n : Nat) (p k : Int) (s : St), (101 - k).toNat < n → 0 ≤ k → x3 + k ≤ p → s 75 = σ 75 → (∃ m, CW (cg σ 1) (ct σ) σ x1 (σ 63 x1) (x2, x3) m s ∧ tr (cg σ 1) (ct σ) (σ 63 x1) (x2, x3) m = (x2, p)) → L_X3_walkWater_16 Q x1 x2 (σ 63 x1) n p k s := by
  obtain ⟨p0, p1, r0, r1, p2, p3, p4, p5, p6, p7, hM, hW, hG, hF⟩ := id hp
  obtain ⟨⟨t0, t1⟩, hT, hR⟩ := cgW hW
  have gz : gs (cg σ 1) (σ 63 x1) = σ 5 (σ 63 x1) := cg_s r0 r1
  have zz := (hR _ r0 r1).1
  intro n
  induction n with
  | zero => intro p k s hn; exact absurd hn (Nat.not_lt_zero _)
  | succ n ih =>
    intro p k s hn hk hpk h75 hm
    obtain ⟨m, hC, ht⟩ := hm
    obtain ⟨k1, k3, k5, k7, k9, k54, k56, k58, k60, k61, k63, k65⟩ := CW_keep hC
    have cts : ct s = ct σ := ct_row k60
    have tk := tg_ok hW hG (x := (x2, x3)) ⟨r0, r1⟩ ⟨p2, by dsimp only; omega⟩ ⟨by dsimp only; omega, by rw [cg_L]; exact p6⟩ rfl p7 m
    rw [ht] at tk
    dsimp only at tk
    rw [cg_L] at tk
    have ok := nx_ok hW hG (x := (x2, p)) ⟨r0, r1⟩ ⟨p2, by dsimp only; omega⟩ ⟨by dsimp only; omega, by rw [cg_L]; dsimp only; omega⟩ tk.2.2 p7
    obtain ⟨b1, b2, b3, b4, b5, b6, b7, b8⟩ := ok.2 p3
    have mon : ∀ k, k < m → emc (cg σ 1) (ct σ) (σ 63 x1) (tr (cg σ 1) (ct σ) (σ 63 x1) (x2, x3) k) ≠ -1 → (tr (cg σ 1) (ct σ) (σ 63 x1) (x2, x3) k).2 < (tr (cg σ 1) (ct σ) (σ 63 x1) (x2, x3) m).2 := fun k hk he => tg_ch hW hG (x := (x2, x3)) ⟨r0, r1⟩ ⟨p2, by dsimp only; omega⟩ ⟨by dsimp only; omega, by rw [cg_L]; exact p6⟩ rfl p7 hk he
    have ni : ¬ gs (cg σ 1) (σ 63 x1) ≤ x2 := by omega
    refine ⟨⟨by omega, by omega⟩, fun c => absurd c (by omega), fun c => ⟨⟨r0, by omega, by omega, by omega, by omega, by omega, MB_rows hM k54 k56 k58 k60⟩, fun r10 e10 => ?_⟩⟩
    have e10 : r10 = if ¬ ct σ (σ 63 x1) (x2 + 1) p = -1 then 1 else 0 := by
      rw [e10]
      show (if ¬ tget s (σ 63 x1) (x2 + 1) p = -1 then (1 : Int) else 0) = _
      rw [tget_nn (by omega), cts]
    by_cases a : ¬ ct σ (σ 63 x1) (x2 + 1) p = -1
    · rw [if_pos a] at e10
      have ec : emc (cg σ 1) (ct σ) (σ 63 x1) (x2, p) = -1 := by
        unfold emc
        dsimp only
        rw [if_neg ni, if_pos p4, if_pos a]
      have ew : emw (cg σ 1) (ct σ) (σ 63 x1) (x2, p) = 0 := by
        unfold emw
        dsimp only
        rw [if_neg ni, if_pos p4, if_pos a]
      have en : nx (cg σ 1) (ct σ) (σ 63 x1) (x2, p) = (x2 + 1, p) := by
        unfold nx
        dsimp only
        rw [if_neg ni, if_pos p4, if_pos a]
      refine ⟨by rw [e10]; exact ⟨by decide, by decide⟩, fun z => absurd (e10.symm.trans z) (by decide), fun _ => hQ _ _ ⟨h75, m + 1, CW_none hC (by rw [ht]; exact ec) (by rw [ht]; exact ew), ?_⟩⟩
      show nx _ _ _ (tr _ _ _ _ m) = _
      rw [ht, en]
    · rw [if_neg a] at e10
      have a' : ¬ ct σ (σ 63 x1) (x2 + 1) p ≠ -1 := a
      refine ⟨by rw [e10]; exact ⟨by decide, by decide⟩, fun _ => ⟨⟨by omega, by omega⟩, fun r16 e16 => ?_⟩, fun z => absurd e10 z⟩
      have e16 : r16 = first (ct σ) p := by
        rw [e16]
        show (if 0 ≤ p ∧ p < 101 then s 58 p else -1) = _
        rw [if_pos (by omega), k58]
        exact (hF p (by omega) (by omega)).1
      have fr := first_rng (ct σ) p
      rw [← e16] at fr
      refine ⟨⟨by omega, by omega⟩, fun b => ?_, fun b => ?_⟩
      · have fb : first (ct σ) p ≠ -1 := by rw [← e16]; exact b
        have ec : emc (cg σ 1) (ct σ) (σ 63 x1) (x2, p) = r16 := by
          unfold emc
          dsimp only
          rw [if_neg ni, if_pos p4, if_neg a', e16]
        have ew : emw (cg σ 1) (ct σ) (σ 63 x1) (x2, p) = 0 := by
          unfold emw
          dsimp only
          rw [if_neg ni, if_pos p4, if_neg a', if_pos fb]
        have en : nx (cg σ 1) (ct σ) (σ 63 x1) (x2, p) = (x2, ct σ r16 0 p) := by
          unfold nx
          dsimp only
          rw [if_neg ni, if_pos p4, if_neg a', if_pos fb, e16]
        rw [ec] at b7
        obtain ⟨d1, d2, d3, d4⟩ := b7 b
        rw [en] at d4 b2
        dsimp only at d4 b2
        rw [cg_L] at b2
        refine ⟨⟨by omega, by omega⟩, fun s20 e20 => ⟨⟨by omega, by omega, by omega, by omega⟩, fun r25 e25 => ?_⟩⟩
        have e20 : s20 = up (up s 77 p r16) 79 p x1 := e20
        have e25 : r25 = ct σ r16 0 p := by
          rw [e25]
          show tget s20 r16 0 p = _
          rw [tget_nn (by omega), ct_row (show s20 60 = s 60 by rw [e20, up_n _ _ _ (by decide), up_n _ _ _ (by decide)]), cts]
        refine ih r25 (k + 1) s20 (by omega) (by omega) (by omega) (by rw [e20, up_n _ _ _ (by decide), up_n _ _ _ (by decide)]; exact h75) ⟨m + 1, ?_, ?_⟩
        · have h := CW_child hC (by rw [ht]; exact ew) (by rw [ht, ec]; exact b) mon
          rw [ht, ec] at h
          rw [e20]
          exact h
        · show nx _ _ _ (tr _ _ _ _ m) = _
          rw [ht, en, e25]
      · have fb : ¬ first (ct σ) p ≠ -1 := by rw [← e16]; exact fun z => z b
        have ec : emc (cg σ 1) (ct σ) (σ 63 x1) (x2, p) = -1 := by
          unfold emc
          dsimp only
          rw [if_neg ni, if_pos p4, if_neg a', ← e16, b]
        have ew : emw (cg σ 1) (ct σ) (σ 63 x1) (x2, p) = 1 := by
          unfold emw
          dsimp only
          rw [if_neg ni, if_pos p4, if_neg a', if_neg fb]
        have en : nx (cg σ 1) (ct σ) (σ 63 x1) (x2, p) = (x2, p + 1) := by
          unfold nx
          dsimp only
          rw [if_neg ni, if_pos p4, if_neg a', if_neg fb]
        refine ⟨⟨by omega, by omega⟩, fun r29 e29 => ⟨⟨by omega, by omega⟩, fun s31 e31 => ?_⟩⟩
        have e29 : r29 = s 73 x1 := by rw [e29]; exact if_pos ⟨p0, by omega⟩
        have e31 : s31 = up s 73 x1 (s 73 x1 + 1) := by rw [e31, e29]; exact if_pos ⟨p0, by omega⟩
        refine ih (p + 1) (k + 1) s31 (by omega) (by omega) (by omega) (by rw [e31, up_n _ _ _ (by decide)]; exact h75) ⟨m + 1, ?_, ?_⟩
        · rw [e31]
          exact CW_water hC (by rw [ht]; exact ec) (by rw [ht]; exact ew)
        · show nx _ _ _ (tr _ _ _ _ m) = _
          rw [ht, en]
theorem v_X3_walkWater (x1 x2 x3 : Int) (σ : St) (hp : pre_X3_walkWater x1 x2 x3 σ) : V_X3_walkWater x1 x2 x3 σ (post_X3_walkWater x1 x2 x3 σ) := by
  obtain ⟨p0, p1, r0, r1, p2, p3, p4, p5, p6, p7, hM, hW, hG, hF⟩ := id hp
  refine ⟨⟨by omega, by omega⟩, fun r4 e4 => ?_⟩
  have e4 : r4 = σ 63 x1 := by rw [e4]; exact if_pos ⟨p0, by omega⟩
  rw [e4]
  exact ⟨102, l_X3_walkWater σ x1 x2 x3 hp _ (fun r s h => h) 102 x3 0 σ (by decide) (by decide) (by omega) rfl ⟨0, CW_0 _ _ _ _ _ _, rfl⟩⟩
end
section
theorem RE_all (g : Gr) (lo hi : Int) : ∀ (n : Nat) (p : Int), n = (gl g - p).toNat → ∀ x, p ≤ x → x < RE g lo hi p → x < gl g ∧ lo ≤ gt g x ∧ gt g x ≤ hi := by
  intro n
  induction n with
  | zero =>
    intro p hp x h0 h1
    rw [RE_stop (by omega)] at h1
    omega
  | succ n ih =>
    intro p hp x h0 h1
    by_cases h : p < gl g ∧ lo ≤ gt g p ∧ gt g p ≤ hi
    · by_cases z : x = p
      · subst z
        exact h
      · rw [RE_step h] at h1
        exact ih (p + 1) (by omega) x (by omega) h1
    · rw [RE_stop h] at h1
      omega
theorem nb_congr {f f' : Int → Int} {s : Int} : ∀ (n : Nat), (∀ x, s ≤ x → x < s + n → f' x = f x) → nb f' s n = nb f s n := by
  intro n
  induction n with
  | zero => intro _; rfl
  | succ n ih =>
    intro h
    show (nb f' s n * 10 + f' (s + n) - 48) % 1000000 = (nb f s n * 10 + f (s + n) - 48) % 1000000
    rw [ih (fun x a b => h x a (by omega)), h (s + n) (by omega) (by omega)]
theorem dec_b (g : Gr) (p : Int) : 0 ≤ dec g p ∧ dec g p < 1000000 := nb_b _ _ _
/-- the number's row, with the elements below i seen -/
def nI75 (g : Gr) (T : Tb) (σ : St) (j r s0 i : Int) (s : St) : Prop := (s 75 = ui (σ 75) j (-1) ∧ ∀ i', 0 ≤ i' → i' < i → ge g r i' ≠ 35) ∨ (∃ k, (tr g T r (0, s0) k).1 < i ∧ ge g r (tr g T r (0, s0) k).1 = 35 ∧ (∀ i', 0 ≤ i' → i' < (tr g T r (0, s0) k).1 → ge g r i' ≠ 35) ∧ s 75 = ui (σ 75) j (dec g (tr g T r (0, s0) k).2))
theorem nI75_next {g : Gr} {T : Tb} {σ : St} {j r s0 i : Int} {s : St} (h : nI75 g T σ j r s0 i s) (he : ge g r i ≠ 35) : nI75 g T σ j r s0 (i + 1) s := by
  rcases h with ⟨h1, h2⟩ | ⟨k, h1, h2, h3, h4⟩
  · refine Or.inl ⟨h1, fun i' a b => ?_⟩
    by_cases z : i' = i
    · subst z; exact he
    · exact h2 i' a (by omega)
  · exact Or.inr ⟨k, by omega, h2, h3, h4⟩
theorem l_X3_walkPattern (σ : St) (x1 : Int) (hp : pre_X3_walkPattern x1 σ) (Q : St → Prop) (hQ : ∀ s, post_X3_walkPattern x1 σ s → Q s) : ∀ (n : Nat) (p i : Int) (s : St), (9 - i).toNat < n → 0 ≤ i → (∃ m, CW (cg σ 1) (ct σ) σ x1 (σ 63 x1) (0, σ 65 x1) m s ∧ tr (cg σ 1) (ct σ) (σ 63 x1) (0, σ 65 x1) m = (i, p)) → nI75 (cg σ 1) (ct σ) σ x1 (σ 63 x1) (σ 65 x1) i s → L_X3_walkPattern_31 Q x1 (σ 63 x1) (σ 5 (σ 63 x1)) n p i s := by
  obtain ⟨p0, p1, r0, r1, s0, sL, hne, h75, hM, hW, hG, hF⟩ := id hp
  obtain ⟨⟨t0, t1⟩, hT, hR⟩ := cgW hW
  have gz : gs (cg σ 1) (σ 63 x1) = σ 5 (σ 63 x1) := cg_s r0 r1
  obtain ⟨⟨z0, z1⟩, zs, ze, zf⟩ := hR _ r0 r1
  have hs : 0 ≤ σ 65 x1 ∧ σ 65 x1 ≤ gl (cg σ 1) := ⟨s0, sL⟩
  intro n
  induction n with
  | zero => intro p k s hn; exact absurd hn (Nat.not_lt_zero _)
  | succ n ih =>
    intro p i s hn hi hm h5
    obtain ⟨m, hC, ht⟩ := hm
    obtain ⟨k1, k3, k5, k7, k9, k54, k56, k58, k60, k61, k63, k65⟩ := CW_keep hC
    have cts : ct s = ct σ := ct_row k60
    have cgs : cg s 1 = cg σ 1 := cg_rows k1 k3 k5 k7 k9
    have tk := tr_ok hW hG ⟨r0, r1⟩ hs rfl hne m
    rw [ht] at tk
    dsimp only at tk
    rw [cg_L] at tk
    refine ⟨⟨by omega, by omega⟩, ⟨by omega, by omega⟩, fun c => hQ _ ⟨⟨m, by rw [ht]; dsimp only; omega, hC⟩, ?_⟩, fun c => ⟨⟨r0, r1, hi, by omega⟩, fun r19 e19 => ?_⟩⟩
    · have ei : i = gs (cg σ 1) (σ 63 x1) := by omega
      rcases h5 with ⟨h1, h2⟩ | ⟨k, h1, h2, h3, h4⟩
      · exact ⟨-1, Or.inl ⟨rfl, fun i' a b => h2 i' a (by omega)⟩, h1⟩
      · exact ⟨_, Or.inr ⟨k, by omega, h2, h3, rfl⟩, h4⟩
    · have il : i < gs (cg σ 1) (σ 63 x1) := by omega
      have e19 : r19 = ge (cg σ 1) (σ 63 x1) i := by
        rw [e19]
        show s 7 (σ 63 x1 * 8 + i) = _
        rw [k7]
        exact (cg_e r0 r1 hi (by show i < σ 5 (σ 63 x1); omega)).symm
      have eb := ze i hi (by omega)
      rw [← show ge (cg σ 1) (σ 63 x1) i = σ 7 (σ 63 x1 * 8 + i) from cg_e r0 r1 hi (by show i < σ 5 (σ 63 x1); omega), ← e19] at eb
      have ok := nx_ok hW hG (x := (i, p)) ⟨r0, r1⟩ ⟨hi, by dsimp only; omega⟩ ⟨by dsimp only; omega, by rw [cg_L]; dsimp only; omega⟩ tk.2.2.1 hne
      obtain ⟨b1, b2, b3, b4, b5, b6, b7, b8⟩ := ok.2 il
      rw [cg_L] at b2
      have ni : ¬ gs (cg σ 1) (σ 63 x1) ≤ i := by omega
      have mon : ∀ k l, k < l → emc (cg σ 1) (ct σ) (σ 63 x1) (tr (cg σ 1) (ct σ) (σ 63 x1) (0, σ 65 x1) k) ≠ -1 → (tr (cg σ 1) (ct σ) (σ 63 x1) (0, σ 65 x1) k).2 < (tr (cg σ 1) (ct σ) (σ 63 x1) (0, σ 65 x1) l).2 := fun k l hk he => tg_ch hW hG (x := (0, σ 65 x1)) ⟨r0, r1⟩ ⟨by dsimp only; omega, by dsimp only; omega⟩ hs rfl hne hk he
      refine ⟨⟨by omega, by omega⟩, fun w => ?_, fun w => ?_⟩
      · -- not WATER
        rw [e19] at w
        have en : nx (cg σ 1) (ct σ) (σ 63 x1) (i, p) = (i + 1, eE (cg σ 1) (ct σ) r19 p) := by
          unfold nx
          dsimp only
          rw [if_neg ni, if_neg w, e19]
        have ew : emw (cg σ 1) (ct σ) (σ 63 x1) (i, p) = 0 := by
          unfold emw
          dsimp only
          rw [if_neg ni, if_neg w]
        have ec : emc (cg σ 1) (ct σ) (σ 63 x1) (i, p) = if 65 ≤ r19 ∧ r19 ≤ 70 then r19 - 65 else -1 := by
          unfold emc
          dsimp only
          rw [if_neg ni, if_neg w, e19]
        rw [en] at b2 b3 b4 b7
        dsimp only at b2 b3 b4 b7
        refine ⟨⟨by omega, by omega, by omega, by omega, by rw [k1]; exact t0, by rw [k1]; exact t1, MB_rows hM k54 k56 k58 k60, fun a => ?_⟩, fun r25 e25 => ⟨⟨by omega, by omega⟩, fun r29 e29 => ?_⟩⟩
        · rw [k1] at a
          rw [k3]
          have := hT p (by omega) a
          exact ⟨by omega, by omega⟩
        · have fp := hF p (by omega) (by omega)
          have e25 : r25 = eE (cg σ 1) (ct σ) r19 p := by
            rw [e25]
            show ans_X2_elementEnd r19 p s = _
            rw [eE_lnk (by rw [cgs]; exact hW) (by omega) eb.1 (by rw [k54, cgs]; exact fp.2.1) (by rw [k56, cgs]; exact fp.2.2), cgs, cts]
          have e29 : r29 = if 65 ≤ r19 ∧ r19 ≤ 70 then 1 else 0 := e29
          rw [← e25] at en b2 b3 b4 b7
          have nxt : ∀ s' : St, s' 75 = s 75 → CW (cg σ 1) (ct σ) σ x1 (σ 63 x1) (0, σ 65 x1) (m + 1) s' → r19 ≠ 35 → L_X3_walkPattern_31 Q x1 (σ 63 x1) (σ 5 (σ 63 x1)) n r25 (i + 1) s' := fun s' h' hC' hd => by
            refine ih r25 (i + 1) s' (by omega) (by omega) ⟨m + 1, hC', ?_⟩ ?_
            · show nx _ _ _ (tr _ _ _ _ m) = _
              rw [ht, en]
            · have := nI75_next h5 (by rw [← e19]; exact hd)
              unfold nI75 at this ⊢
              rw [h']
              exact this
          refine ⟨by rw [e29]; split <;> exact ⟨by decide, by decide⟩, fun a => ⟨fun d => ?_, fun d => ?_⟩, fun a => ?_⟩
          · have nr : ¬ (65 ≤ r19 ∧ r19 ≤ 70) := fun z => by
              rw [if_pos z] at e29
              omega
            rw [if_neg nr] at ec
            exact nxt s rfl (CW_none hC (by rw [ht]; exact ec) (by rw [ht]; exact ew)) d
          · have nr : ¬ (65 ≤ r19 ∧ r19 ≤ 70) := by omega
            rw [if_neg nr] at ec
            have hC' := CW_none hC (by rw [ht]; exact ec) (by rw [ht]; exact ew)
            have eg : ge (cg σ 1) (σ 63 x1) i = 35 := by rw [← e19]; exact d
            refine ⟨⟨by omega, by omega⟩, fun r36 e36 => ?_⟩
            have e36 : r36 = s 75 x1 := by rw [e36]; exact if_pos ⟨p0, by omega⟩
            have runv : r25 = RE (cg σ 1) 48 57 p := by
              have h1 : r25 = runE (cg σ 1) 48 57 p := by
                rw [e25, d]
                rfl
              unfold runE at h1
              by_cases z : p < RE (cg σ 1) 48 57 p
              · rw [if_pos z] at h1
                exact h1
              · rw [if_neg z] at h1
                omega
            rcases h5 with ⟨h1, h2⟩ | ⟨k, h1, h2, h3, h4⟩
            · have v36 : r36 = -1 := by rw [e36, h1, ui_s]
              refine ⟨by rw [v36]; exact ⟨by decide, by decide⟩, fun z => absurd v36 z, fun _ => ⟨⟨by omega, by omega, by rw [k1]; omega, by rw [k1]; exact t1, fun x a b => ?_⟩, fun r42 e42 => ⟨⟨by omega, by omega⟩, fun s44 e44 => ?_⟩⟩⟩
              · rw [k3]
                have := RE_all (cg σ 1) 48 57 _ p rfl x a (by omega)
                rw [cg_t (by omega) this.1] at this
                exact this.2
              · have e44 : s44 = up s 75 x1 r42 := by rw [e44]; exact if_pos ⟨p0, by omega⟩
                have e42 : r42 = dec (cg σ 1) p := by
                  rw [e42]
                  show nb (s 3) p (r25 - p).toNat = nb (gt (cg σ 1)) p (RE (cg σ 1) 48 57 p - p).toNat
                  rw [k3, runv]
                  refine nb_congr _ (fun x a b => ?_)
                  have := RE_all (cg σ 1) 48 57 _ p rfl x a (by omega)
                  exact (cg_t (b := 1) (by omega) this.1).symm
                have hC2 : CW (cg σ 1) (ct σ) σ x1 (σ 63 x1) (0, σ 65 x1) (m + 1) s44 := by
                  obtain ⟨c1, c2, c3, c4⟩ := hC'
                  rw [e44]
                  refine ⟨fun q a b e f => by rw [up_n _ _ _ b]; exact c1 q a b e f, by rw [up_n _ _ _ (by decide)]; exact c2, ?_, ?_⟩
                  · rw [up_n _ _ _ (by decide), up_n _ _ _ (by decide)]
                    exact c3
                  · rw [up_n _ _ _ (by decide), up_n _ _ _ (by decide)]
                    exact c4
                refine ih r25 (i + 1) s44 (by omega) (by omega) ⟨m + 1, hC2, ?_⟩ (Or.inr ⟨m, by rw [ht]; dsimp only; omega, by rw [ht]; exact eg, by rw [ht]; exact h2, ?_⟩)
                · show nx _ _ _ (tr _ _ _ _ m) = _
                  rw [ht, en]
                · rw [e44, up_s, h1, ui_ui, ht, e42]
            · have db := dec_b (cg σ 1) (tr (cg σ 1) (ct σ) (σ 63 x1) (0, σ 65 x1) k).2
              have v36 : r36 = dec (cg σ 1) (tr (cg σ 1) (ct σ) (σ 63 x1) (0, σ 65 x1) k).2 := by rw [e36, h4, ui_s]
              refine ⟨⟨by omega, by omega⟩, fun _ => ih r25 (i + 1) s (by omega) (by omega) ⟨m + 1, hC', ?_⟩ (Or.inr ⟨k, by omega, h2, h3, h4⟩), fun z => absurd (v36.symm.trans z) (by omega)⟩
              show nx _ _ _ (tr _ _ _ _ m) = _
              rw [ht, en]
          · have yr : 65 ≤ r19 ∧ r19 ≤ 70 := by
              by_cases z : 65 ≤ r19 ∧ r19 ≤ 70
              · exact z
              · rw [if_neg z] at e29
                exact absurd e29 a
            rw [if_pos yr] at ec
            rw [ec] at b7
            obtain ⟨d1, d2, d3, d4⟩ := b7 (by omega)
            refine ⟨⟨by omega, by omega⟩, fun s47 e47 => ?_⟩
            have e47 : s47 = up (up s 77 p (r19 - 65)) 79 p x1 := e47
            have hC' := CW_child hC (by rw [ht]; exact ew) (by rw [ht, ec]; omega) (fun k hk he => mon k m hk he)
            rw [ht, ec, ← e47] at hC'
            have h75' : s47 75 = s 75 := by rw [e47, up_n _ _ _ (by decide), up_n _ _ _ (by decide)]
            exact ⟨fun d => nxt s47 h75' hC' d, fun d => absurd yr (by omega)⟩
      · -- WATER
        have w' : ge (cg σ 1) (σ 63 x1) i = 126 := by rw [← e19]; exact w
        have i0 : i ≠ 0 := fun z => by
          subst z
          obtain ⟨-, -, hR3⟩ := hW
          exact ((hR3 _ r0 r1).2.2.2 (by omega)).1 w'
        have p1' : 1 ≤ p := by
          cases m with
          | zero =>
            have : (i : Int) = 0 := (congrArg Prod.fst ht).symm
            exact absurd this i0
          | succ m =>
            have h0 := ((nx_ok hW hG (x := (0, σ 65 x1)) ⟨r0, r1⟩ ⟨by dsimp only; omega, by dsimp only; omega⟩ hs rfl hne).2 (by dsimp only; omega)).2.2.2.2.2.2.2 rfl
            have h1 := tr_mono hW hG ⟨r0, r1⟩ hs rfl hne 1 m
            rw [Nat.add_comm, ht] at h1
            have h2 : tr (cg σ 1) (ct σ) (σ 63 x1) (0, σ 65 x1) 1 = nx (cg σ 1) (ct σ) (σ 63 x1) (0, σ 65 x1) := rfl
            rw [h2] at h1
            have h3 := h0.2.2.1
            dsimp only at h1 h3
            omega
        refine ⟨⟨p0, p1, by rw [k63]; exact r0, by rw [k63]; exact r1, hi, by rw [k63, cgs]; exact il, by rw [k63, cgs]; exact w', p1', by rw [k1]; omega, by rw [k63, cts, tk.2.2.1]; exact hne, MB_rows hM k54 k56 k58 k60, by rw [cgs]; exact hW, by rw [cgs, cts]; exact hG, by rw [k1, k58, k54, k56, cgs, cts]; exact hF⟩, fun r66 s64 hpost => ?_⟩
        obtain ⟨g75, m2, gC, gt2⟩ := hpost
        rw [k63, cgs, cts] at gC gt2
        have hC2 := CW_app hC (by rw [ht]; exact gC) mon
        have ht2 : tr (cg σ 1) (ct σ) (σ 63 x1) (0, σ 65 x1) (m + m2) = (i + 1, r66) := by rw [tr_add, ht]; exact gt2
        refine ⟨⟨by omega, by omega⟩, fun r70 e70 => ?_⟩
        have e70 : r70 = if 65 ≤ r19 ∧ r19 ≤ 70 then 1 else 0 := e70
        rw [if_neg (by omega)] at e70
        refine ⟨by rw [e70]; exact ⟨by decide, by decide⟩, fun _ => ⟨fun d => ih r66 (i + 1) s64 (by omega) (by omega) ⟨m + m2, hC2, ht2⟩ ?_, fun d => absurd d (by omega)⟩, fun z => absurd e70 z⟩
        have := nI75_next h5 (by rw [w']; decide)
        unfold nI75 at this ⊢
        rw [g75]
        exact this
theorem v_X3_walkPattern (x1 : Int) (σ : St) (hp : pre_X3_walkPattern x1 σ) : V_X3_walkPattern x1 σ (post_X3_walkPattern x1 σ) := by
  obtain ⟨p0, p1, r0, r1, s0, sL, hne, h75, hM, hW, hG, hF⟩ := id hp
  refine ⟨⟨by omega, by omega⟩, fun r4 e4 => ?_⟩
  have e4 : r4 = σ 63 x1 := by rw [e4]; exact if_pos ⟨p0, by omega⟩
  rw [e4]
  refine ⟨⟨r0, r1⟩, fun r8 e8 => ⟨⟨by omega, by omega⟩, fun r12 e12 => ?_⟩⟩
  have e8 : r8 = σ 5 (σ 63 x1) := e8
  have e12 : r12 = σ 65 x1 := by rw [e12]; exact if_pos ⟨p0, by omega⟩
  rw [e8, e12]
  exact ⟨10, l_X3_walkPattern σ x1 hp _ (fun s h => h) 10 _ 0 σ (by decide) (by decide) ⟨0, CW_0 _ _ _ _ _ _, rfl⟩ (Or.inl ⟨by rw [← h75, ui_id], fun i' a b => absurd a (by omega)⟩)⟩
end
section
theorem tp_ok {g : Gr} {T : Tb} (hW : gWF g) (hG : Good g T) : ∀ n, 0 ≤ tp g T n ∧ tp g T n ≤ gl g ∧ tp g T n ≤ tp g T (n + 1) ∧ (tp g T n < gl g → tp g T n < tp g T (n + 1)) := by
  obtain ⟨hL, ht, hR⟩ := id hW
  have BD := bnd hW (p := -1) (by decide) (fun q a b => hG q (by omega) b)
  have st : ∀ n, 0 ≤ tp g T n → tp g T n ≤ gl g → tp g T n ≤ tp g T (n + 1) ∧ tp g T (n + 1) ≤ gl g ∧ (tp g T n < gl g → tp g T n < tp g T (n + 1)) := by
    intro n h0 h1
    show tp g T n ≤ (if gl g ≤ tp g T n then tp g T n else if first T (tp g T n) = -1 then tp g T n + 1 else T (first T (tp g T n)) 0 (tp g T n)) ∧ (if gl g ≤ tp g T n then tp g T n else if first T (tp g T n) = -1 then tp g T n + 1 else T (first T (tp g T n)) 0 (tp g T n)) ≤ gl g ∧ (tp g T n < gl g → tp g T n < (if gl g ≤ tp g T n then tp g T n else if first T (tp g T n) = -1 then tp g T n + 1 else T (first T (tp g T n)) 0 (tp g T n)))
    by_cases c : gl g ≤ tp g T n
    · rw [if_pos c]
      omega
    · rw [if_neg c]
      by_cases d : first T (tp g T n) = -1
      · rw [if_pos d]
        omega
      · rw [if_neg d]
        obtain ⟨f1, f2, f3⟩ := (first_rng T (tp g T n)).resolve_left d
        have u := ((BD _ _ (Nat.le_refl _) (by omega) h1).1 _ f1 f2).resolve_left f3
        omega
  have all : ∀ n, 0 ≤ tp g T n ∧ tp g T n ≤ gl g := by
    intro n
    induction n with
    | zero => exact ⟨Int.le_refl 0, hL.1⟩
    | succ n ih =>
      have := st n ih.1 ih.2
      omega
  exact fun n => ⟨(all n).1, (all n).2, (st n (all n).1 (all n).2).1, (st n (all n).1 (all n).2).2.2⟩
theorem tp_mono {g : Gr} {T : Tb} (hW : gWF g) (hG : Good g T) (n : Nat) : ∀ d, tp g T n ≤ tp g T (n + d) := by
  intro d
  induction d with
  | zero => exact Int.le_refl _
  | succ d ih => exact Int.le_trans ih (tp_ok hW hG (n + d)).2.2.1
theorem tcn_b {g : Gr} {T : Tb} (hW : gWF g) (hG : Good g T) : ∀ n, (0 ≤ (tcn g T n).1 ∧ (tcn g T n).1 ≤ tp g T n) ∧ (0 ≤ (tcn g T n).2.1 ∧ (tcn g T n).2.1 ≤ tp g T n) ∧ (0 ≤ (tcn g T n).2.2.1 ∧ (tcn g T n).2.2.1 ≤ tp g T n) ∧ (0 ≤ (tcn g T n).2.2.2 ∧ (tcn g T n).2.2.2 ≤ tp g T n) := by
  intro n
  induction n with
  | zero => exact ⟨⟨Int.le_refl 0, Int.le_refl 0⟩, ⟨Int.le_refl 0, Int.le_refl 0⟩, ⟨Int.le_refl 0, Int.le_refl 0⟩, ⟨Int.le_refl 0, Int.le_refl 0⟩⟩
  | succ n ih =>
    have h := tp_ok hW hG n
    obtain ⟨a1, a2, a3, a4⟩ := ih
    by_cases c : gl g ≤ tp g T n
    · have e : tcn g T (n + 1) = tcn g T n := if_pos c
      rw [e]
      omega
    · have lt := h.2.2.2 (by omega)
      by_cases d : first T (tp g T n) = -1
      · have e : tcn g T (n + 1) = ((tcn g T n).1, (tcn g T n).2.1 + 1, (tcn g T n).2.2.1 + 1, max (tcn g T n).2.2.2 ((tcn g T n).2.2.1 + 1)) := by
          show (if gl g ≤ tp g T n then _ else if first T (tp g T n) = -1 then _ else _) = _
          rw [if_neg c, if_pos d]
        rw [e]
        dsimp only
        omega
      · have e : tcn g T (n + 1) = ((tcn g T n).1 + 1, (tcn g T n).2.1, 0, (tcn g T n).2.2.2) := by
          show (if gl g ≤ tp g T n then _ else if first T (tp g T n) = -1 then _ else _) = _
          rw [if_neg c, if_neg d]
        rw [e]
        dsimp only
        omega
/-- the sweep: p is the place, z the end of the present top-level piece -/
def SI (g : Gr) (T : Tb) (σ : St) (p z : Int) (s : St) : Prop :=
  (∀ q, q < 61 ∨ 80 ≤ q → s q = σ q) ∧ (0 ≤ s 61 11 ∧ s 61 11 ≤ p) ∧
  (∀ j, 0 ≤ j → j < s 61 11 → nodeOK g T s j ∧ s 65 j < p ∧ s 67 j ≤ z) ∧
  (∀ i j, 0 ≤ i → i < j → j < s 61 11 → s 65 i < s 65 j ∧ (s 65 j < s 67 i → s 71 i < s 71 j)) ∧
  (∀ q, p ≤ q → q < 100 → s 77 q ≠ -1 → (0 ≤ s 77 q ∧ s 77 q < 6) ∧ (q < T (s 77 q) 0 q ∧ T (s 77 q) 0 q ≤ z) ∧ ((s 79 q = -1 ∧ To g T (s 77 q) q) ∨ ((0 ≤ s 79 q ∧ s 79 q < s 61 11) ∧ Ch g T (s 63 (s 79 q)) (s 65 (s 79 q)) (s 77 q) q)) ∧ (∀ i, 0 ≤ i → i < s 61 11 → q < s 67 i → s 79 q ≠ -1 ∧ s 71 i ≤ s 71 (s 79 q)) ∧ (∀ q2, q < q2 → q2 < 100 → s 77 q2 ≠ -1 → T (s 77 q) 0 q ≤ q2)) ∧
  (∀ k q, To g T k q → q < z → (∃ j, (0 ≤ j ∧ j < s 61 11) ∧ s 65 j = q ∧ s 63 j = k ∧ s 69 j = -1) ∨ (p ≤ q ∧ s 77 q = k ∧ s 79 q = -1)) ∧
  (∀ j, 0 ≤ j → j < s 61 11 → ∀ k q, Ch g T (s 63 j) (s 65 j) k q → (∃ i, (0 ≤ i ∧ i < s 61 11) ∧ s 65 i = q ∧ s 63 i = k ∧ s 69 i = j) ∨ (p ≤ q ∧ s 77 q = k ∧ s 79 q = j)) ∧
  (p ≤ z ∧ ∃ N, tp g T N = z ∧ s 61 12 = (tcn g T N).1 ∧ s 61 13 = (tcn g T N).2.1 ∧ s 61 14 = (tcn g T N).2.2.1 ∧ s 61 15 = (tcn g T N).2.2.2)
theorem SI_skip {g : Gr} {T : Tb} {σ : St} {p z : Int} {s : St} (h : SI g T σ p z s) (hz : p < z) (hd : s 77 p = -1) : SI g T σ (p + 1) z s := by
  obtain ⟨h1, h2, h3, h4, h5, h6, h7, h8, h9⟩ := h
  refine ⟨h1, ⟨h2.1, by omega⟩, fun j a b => ⟨(h3 j a b).1, by have := (h3 j a b).2.1; omega, (h3 j a b).2.2⟩, h4, fun q a b c => h5 q (by omega) b c, fun k q a b => ?_, fun j a b k q c => ?_, by omega, h9⟩
  · rcases h6 k q a b with u | ⟨u1, u2, u3⟩
    · exact Or.inl u
    · refine Or.inr ⟨?_, u2, u3⟩
      by_cases e : q = p
      · subst e
        exact absurd (u2.symm.trans hd) a.1
      · omega
  · rcases h7 j a b k q c with u | ⟨u1, u2, u3⟩
    · exact Or.inl u
    · refine Or.inr ⟨?_, u2, u3⟩
      by_cases e : q = p
      · subst e
        exact absurd (u2.symm.trans hd) c.1
      · omega
theorem SI_top {g : Gr} {T : Tb} (hW : gWF g) (hG : Good g T) {σ : St} {p : Int} {s : St} (h : SI g T σ p p s) (hp : 0 ≤ p ∧ p < gl g) (h58 : s 58 p = first T p) (ht : ct s = T) : SI g T σ p (ans_X3_takeTopLevel p s) (eff_X3_takeTopLevel p s) ∧ p < ans_X3_takeTopLevel p s ∧ ans_X3_takeTopLevel p s ≤ gl g := by
  obtain ⟨h1, h2, h3, h4, h5, h6, h7, h8, N, n1, n2, n3, n4, n5⟩ := h
  obtain ⟨hL, -, hR⟩ := id hW
  have BD := bnd hW (p := -1) (by decide) (fun q a b => hG q (by omega) b)
  have np : ¬ gl g ≤ tp g T N := by rw [n1]; omega
  have none : ∀ q, p ≤ q → q < 100 → s 77 q = -1 := fun q a b => by
    by_cases c : s 77 q = -1
    · exact c
    · have := (h5 q a b c).2.1
      omega
  unfold ans_X3_takeTopLevel eff_X3_takeTopLevel
  rw [h58]
  by_cases c : first T p = -1
  · rw [if_pos c, if_pos c]
    have et : tp g T (N + 1) = p + 1 := by
      show (if gl g ≤ tp g T N then tp g T N else if first T (tp g T N) = -1 then tp g T N + 1 else T (first T (tp g T N)) 0 (tp g T N)) = _
      rw [if_neg np, n1, if_pos c]
    have ec : tcn g T (N + 1) = ((tcn g T N).1, (tcn g T N).2.1 + 1, (tcn g T N).2.2.1 + 1, max (tcn g T N).2.2.2 ((tcn g T N).2.2.1 + 1)) := by
      show (if gl g ≤ tp g T N then tcn g T N else if first T (tp g T N) = -1 then _ else _) = _
      rw [if_neg np, n1, if_pos c]
    have rn : ∀ q, q ≠ 61 → up (up (up s 61 13 (s 61 13 + 1)) 61 14 (s 61 14 + 1)) 61 15 (max (s 61 15) (s 61 14 + 1)) q = s q := fun q a => by rw [up_n _ _ _ a, up_n _ _ _ a, up_n _ _ _ a]
    generalize es : up (up (up s 61 13 (s 61 13 + 1)) 61 14 (s 61 14 + 1)) 61 15 (max (s 61 15) (s 61 14 + 1)) = s' at rn ⊢
    have r61 : s' 61 = ui (ui (ui (s 61) 13 (s 61 13 + 1)) 14 (s 61 14 + 1)) 15 (max (s 61 15) (s 61 14 + 1)) := by rw [← es, up_s, up_s, up_s]
    have e11 : s' 61 11 = s 61 11 := by rw [r61, ui_n _ _ (by decide), ui_n _ _ (by decide), ui_n _ _ (by decide)]
    have r63 := rn 63 (by decide)
    have r65 := rn 65 (by decide)
    have r67 := rn 67 (by decide)
    have r69 := rn 69 (by decide)
    have r71 := rn 71 (by decide)
    have r73 := rn 73 (by decide)
    have r75 := rn 75 (by decide)
    have r77 := rn 77 (by decide)
    have r79 := rn 79 (by decide)
    refine ⟨⟨fun q a => by rw [rn q (by omega)]; exact h1 q a, by rw [e11]; exact h2, fun j a b => ?_, ?_, fun q a b d => absurd (none q a b) (by rw [← r77]; exact d), fun k q a b => ?_, ?_, by omega, N + 1, et, ?_⟩, by omega, by omega⟩
    · rw [e11] at b
      obtain ⟨u1, u2, u3⟩ := h3 j a b
      unfold nodeOK at u1 ⊢
      rw [r63, r65, r67, r69, r71, r73, r75]
      exact ⟨u1, u2, by omega⟩
    · rw [e11, r65, r67, r71]
      exact h4
    · rw [e11, r65, r63, r69, r77, r79]
      by_cases e : q = p
      · subst e
        exact absurd (a.2.choose_spec.2.2.symm.trans c) a.1
      · exact h6 k q a (by omega)
    · rw [e11, r63, r65, r69, r77, r79]
      exact h7
    · rw [ec, r61]
      dsimp only
      refine ⟨?_, ?_, ?_, ?_⟩
      · rw [ui_n _ _ (by decide), ui_n _ _ (by decide), ui_n _ _ (by decide)]
        exact n2
      · rw [ui_n _ _ (by decide), ui_n _ _ (by decide), ui_s, n3]
      · rw [ui_n _ _ (by decide), ui_s, n4]
      · rw [ui_s, n4, n5]
  · rw [if_neg c, if_neg c]
    obtain ⟨f1, f2, f3⟩ := (first_rng T p).resolve_left c
    have u := ((BD _ p (Nat.le_refl _) (by omega) (by omega)).1 _ f1 f2).resolve_left f3
    have etg : tget s (first T p) 0 p = T (first T p) 0 p := by rw [tget_nn hp.1, ht]
    rw [etg]
    have et : tp g T (N + 1) = T (first T p) 0 p := by
      show (if gl g ≤ tp g T N then tp g T N else if first T (tp g T N) = -1 then tp g T N + 1 else T (first T (tp g T N)) 0 (tp g T N)) = _
      rw [if_neg np, n1, if_neg c]
    have ec : tcn g T (N + 1) = ((tcn g T N).1 + 1, (tcn g T N).2.1, 0, (tcn g T N).2.2.2) := by
      show (if gl g ≤ tp g T N then tcn g T N else if first T (tp g T N) = -1 then _ else _) = _
      rw [if_neg np, n1, if_neg c]
    have rn : ∀ q, q ≠ 61 → q ≠ 77 → q ≠ 79 → eff_X3_announce p (first T p) (-1) (up (up s 61 14 0) 61 12 (s 61 12 + 1)) q = s q := fun q a b d => by
      unfold eff_X3_announce
      rw [up_n _ _ _ d, up_n _ _ _ b, up_n _ _ _ a, up_n _ _ _ a]
    have x61 : eff_X3_announce p (first T p) (-1) (up (up s 61 14 0) 61 12 (s 61 12 + 1)) 61 = ui (ui (s 61) 14 0) 12 (s 61 12 + 1) := by
      unfold eff_X3_announce
      rw [up_n _ _ _ (by decide), up_n _ _ _ (by decide), up_s, up_s]
    have x77 : eff_X3_announce p (first T p) (-1) (up (up s 61 14 0) 61 12 (s 61 12 + 1)) 77 = ui (s 77) p (first T p) := by
      unfold eff_X3_announce
      rw [up_n _ _ _ (by decide), up_s, up_n _ _ _ (by decide), up_n _ _ _ (by decide)]
    have x79 : eff_X3_announce p (first T p) (-1) (up (up s 61 14 0) 61 12 (s 61 12 + 1)) 79 = ui (s 79) p (-1) := by
      unfold eff_X3_announce
      rw [up_s, up_n _ _ _ (by decide), up_n _ _ _ (by decide), up_n _ _ _ (by decide)]
    generalize eff_X3_announce p (first T p) (-1) (up (up s 61 14 0) 61 12 (s 61 12 + 1)) = s' at rn x61 x77 x79 ⊢
    have e11 : s' 61 11 = s 61 11 := by rw [x61, ui_n _ _ (by decide), ui_n _ _ (by decide)]
    have r63 := rn 63 (by decide) (by decide) (by decide)
    have r65 := rn 65 (by decide) (by decide) (by decide)
    have r67 := rn 67 (by decide) (by decide) (by decide)
    have r69 := rn 69 (by decide) (by decide) (by decide)
    have r71 := rn 71 (by decide) (by decide) (by decide)
    have r73 := rn 73 (by decide) (by decide) (by decide)
    have r75 := rn 75 (by decide) (by decide) (by decide)
    have d77 : ∀ q, q ≠ p → s' 77 q = s 77 q := fun q a => by rw [x77, ui_n _ _ a]
    have d79 : ∀ q, q ≠ p → s' 79 q = s 79 q := fun q a => by rw [x79, ui_n _ _ a]
    have p77 : s' 77 p = first T p := by rw [x77, ui_s]
    have p79 : s' 79 p = -1 := by rw [x79, ui_s]
    have tt : To g T (first T p) p := ⟨c, N, n1, hp.2, rfl⟩
    refine ⟨⟨fun q a => by rw [rn q (by omega) (by omega) (by omega)]; exact h1 q a, by rw [e11]; exact h2, fun j a b => ?_, ?_, fun q a b d => ?_, fun k q a b => ?_, fun j a b k q d => ?_, by omega, N + 1, et, ?_⟩, u.1, u.2⟩
    · rw [e11] at b
      obtain ⟨u1, u2, u3⟩ := h3 j a b
      unfold nodeOK at u1 ⊢
      rw [r63, r65, r67, r69, r71, r73, r75]
      exact ⟨u1, u2, by omega⟩
    · rw [e11, r65, r67, r71]
      exact h4
    · by_cases e : q = p
      · subst e
        rw [p77, p79, e11, r67, r71]
        refine ⟨⟨f1, f2⟩, ⟨u.1, Int.le_refl _⟩, Or.inl ⟨rfl, tt⟩, fun i a2 b2 c2 => ?_, fun q2 a2 b2 c2 => ?_⟩
        · have := (h3 i a2 b2).2.2
          omega
        · rw [d77 q2 (by omega), none q2 (by omega) b2] at c2
          exact absurd rfl c2
      · rw [d77 q e, none q a b] at d
        exact absurd rfl d
    · rw [e11, r65, r63, r69]
      by_cases e : q = p
      · subst e
        obtain ⟨w1, w2, w3, w4, w5⟩ := a
        rw [p77, p79]
        exact Or.inr ⟨Int.le_refl _, w5, rfl⟩
      · rw [d77 q e, d79 q e]
        by_cases lt : q < p
        · exact h6 k q a lt
        · exfalso
          obtain ⟨w1, M, w3, w4, w5⟩ := a
          rcases Nat.lt_or_ge N M with g1 | g1
          · have := tp_mono hW hG (N + 1) (M - (N + 1))
            rw [show N + 1 + (M - (N + 1)) = M by omega, et, w3] at this
            omega
          · have := tp_mono hW hG M (N - M)
            rw [show M + (N - M) = N by omega, n1, w3] at this
            omega
    · rw [e11] at b
      rw [r63, r65] at d
      rw [e11, r65, r63, r69]
      rcases h7 j a b k q d with w | ⟨w1, w2, w3⟩
      · exact Or.inl w
      · exfalso
        have ql : q < 100 := by
          obtain ⟨v1, v2, v3, v4, v5, v6, v7⟩ := (h3 j a b).1
          obtain ⟨y1, m, y2, y3⟩ := d
          rw [← y2] at y1
          have := (ch_at hW hG v1 ⟨v2.1, by omega⟩ v3 v4 y1)
          rw [y3] at this
          have b2 := (tr_ok hW hG v1 ⟨v2.1, by omega⟩ v3 v4 m).2.1
          have := this.2.2.2.1
          have e3 := (tr_ok hW hG v1 ⟨v2.1, by omega⟩ v3 v4 (m + 1)).2.1
          omega
        exact d.1 (w2.symm.trans (none q w1 ql))
    · rw [ec, x61]
      dsimp only
      refine ⟨?_, ?_, ?_, ?_⟩
      · rw [ui_s, n2]
      · rw [ui_n _ _ (by decide), ui_n _ _ (by decide), n3]
      · rw [ui_n _ _ (by decide), ui_s]
      · rw [ui_n _ _ (by decide), ui_n _ _ (by decide), n5]
end
