abbrev rm_X7_nodeCount : Room := ({ frames := 7, cells := 0, slots := 0, locals := 163 } : Room)
theorem hd_X7_nodeCount : yX7_nodeCount.cls = RX7 ∧ yX7_nodeCount.cls ≠ "java/lang/invoke/MethodHandle" ∧ yX7_nodeCount.cls ≠ "java/lang/invoke/VarHandle" ∧ (parseMethodDescriptor yX7_nodeCount.desc).map (fun d => d.parameters.length) = some 0 := ⟨rfl, by decide +kernel, by decide +kernel, by decide +kernel⟩
set_option maxHeartbeats 4000000 in
set_option maxRecDepth 100000 in
theorem c_X7_nodeCount (l : Launch) (w : GW) (σ : St) (sz : Nat) (hp : pre_X7_nodeCount σ) : Met l yX7_nodeCount (Cond.code yX7_nodeCount cX7_nodeCount 1 (some .int) :: wsL_law) rm_X7_nodeCount (gPc w gSL σ sz [.ref (gad w 80)]) (gQi w gSL sz (post_X7_nodeCount σ)) 0 0 (gA w gSL.length sz) := by
  have hv : V_X7_nodeCount σ (post_X7_nodeCount σ) := v_X7_nodeCount σ hp
  refine g_met (by decide) [.ref (gad w 80)] (Nat.le_of_ble_eq_true rfl) ?_
  intro p e s m below meth c ls hz C0 hl G
  obtain ⟨hx, hb, hr, hml, hown, hts, hlk, hNw, hA⟩ := id C0
  have hown : s.vm.findClass RX7 = some m.cls := hown
  have hl : lv_has ls 1 [(0, .ref (gad w 80))] := hl
  refine lv_aload_n hx hb dX7_nodeCount_0 rfl (lv_at hl 0 rfl) ?_
  obtain ⟨p1, hv⟩ := hv
  refine g_callVv (rest := []) hx hb hml hts hown hNw hA G [] (c_X7_parse l w σ _ p1) sh_80 rfl wm_490 wm_491 wm_492 wm_5 wm_493 hd_X7_parse ⟨rfl, rfl, Nat.le_of_ble_eq_true rfl, Nat.le_of_ble_eq_true rfl⟩ rfl hl.1 (Nat.le_of_ble_eq_true rfl) rfl dX7_nodeCount_1 ⟨Nat.zero_le _, Nat.zero_le _⟩ (fun s2 H locs h3 G => ?_)
  have hv := hv s2 h3
  refine lv_aload_n hx hb dX7_nodeCount_4 rfl (lv_at hl 0 rfl) ?_
  refine g_getI hx hb hts hown 12 inlX7 G sh_80 rfl (by decide) rfl wm_489 dX7_nodeCount_5 ?_
  exact g_iret hx hb hr hlk hz G hv dX7_nodeCount_8
abbrev rm_X7_islandCount : Room := ({ frames := 7, cells := 0, slots := 0, locals := 163 } : Room)
theorem hd_X7_islandCount : yX7_islandCount.cls = RX7 ∧ yX7_islandCount.cls ≠ "java/lang/invoke/MethodHandle" ∧ yX7_islandCount.cls ≠ "java/lang/invoke/VarHandle" ∧ (parseMethodDescriptor yX7_islandCount.desc).map (fun d => d.parameters.length) = some 0 := ⟨rfl, by decide +kernel, by decide +kernel, by decide +kernel⟩
set_option maxHeartbeats 4000000 in
set_option maxRecDepth 100000 in
theorem c_X7_islandCount (l : Launch) (w : GW) (σ : St) (sz : Nat) (hp : pre_X7_islandCount σ) : Met l yX7_islandCount (Cond.code yX7_islandCount cX7_islandCount 1 (some .int) :: wsL_law) rm_X7_islandCount (gPc w gSL σ sz [.ref (gad w 80)]) (gQi w gSL sz (post_X7_islandCount σ)) 0 0 (gA w gSL.length sz) := by
  have hv : V_X7_islandCount σ (post_X7_islandCount σ) := v_X7_islandCount σ hp
  refine g_met (by decide) [.ref (gad w 80)] (Nat.le_of_ble_eq_true rfl) ?_
  intro p e s m below meth c ls hz C0 hl G
  obtain ⟨hx, hb, hr, hml, hown, hts, hlk, hNw, hA⟩ := id C0
  have hown : s.vm.findClass RX7 = some m.cls := hown
  have hl : lv_has ls 1 [(0, .ref (gad w 80))] := hl
  refine lv_aload_n hx hb dX7_islandCount_0 rfl (lv_at hl 0 rfl) ?_
  obtain ⟨p1, hv⟩ := hv
  refine g_callVv (rest := []) hx hb hml hts hown hNw hA G [] (c_X7_parse l w σ _ p1) sh_80 rfl wm_490 wm_491 wm_492 wm_5 wm_493 hd_X7_parse ⟨rfl, rfl, Nat.le_of_ble_eq_true rfl, Nat.le_of_ble_eq_true rfl⟩ rfl hl.1 (Nat.le_of_ble_eq_true rfl) rfl dX7_islandCount_1 ⟨Nat.zero_le _, Nat.zero_le _⟩ (fun s2 H locs h3 G => ?_)
  have hv := hv s2 h3
  refine lv_aload_n hx hb dX7_islandCount_4 rfl (lv_at hl 0 rfl) ?_
  refine g_getI hx hb hts hown 13 inlX7 G sh_80 rfl (by decide) rfl wm_496 dX7_islandCount_5 ?_
  exact g_iret hx hb hr hlk hz G hv dX7_islandCount_8
abbrev rm_X7_nodeRule : Room := ({ frames := 8, cells := 0, slots := 0, locals := 186 } : Room)
theorem hd_X7_nodeRule : yX7_nodeRule.cls = RX7 ∧ yX7_nodeRule.cls ≠ "java/lang/invoke/MethodHandle" ∧ yX7_nodeRule.cls ≠ "java/lang/invoke/VarHandle" ∧ (parseMethodDescriptor yX7_nodeRule.desc).map (fun d => d.parameters.length) = some 1 := ⟨rfl, by decide +kernel, by decide +kernel, by decide +kernel⟩
set_option maxHeartbeats 4000000 in
set_option maxRecDepth 100000 in
theorem c_X7_nodeRule (l : Launch) (w : GW) (σ : St) (sz : Nat) (x1 : Int) (hp : pre_X7_nodeRule x1 σ) : Met l yX7_nodeRule (Cond.code yX7_nodeRule cX7_nodeRule 2 (some .int) :: wsL_law) rm_X7_nodeRule (gPc w gSL σ sz [.ref (gad w 80), .int (iz x1)]) (gQi w gSL sz (post_X7_nodeRule x1 σ)) 0 0 (gA w gSL.length sz) := by
  have hv : V_X7_nodeRule x1 σ (post_X7_nodeRule x1 σ) := v_X7_nodeRule x1 σ hp
  refine g_met (by decide) [.ref (gad w 80), .int (iz x1)] (Nat.le_of_ble_eq_true rfl) ?_
  intro p e s m below meth c ls hz C0 hl G
  obtain ⟨hx, hb, hr, hml, hown, hts, hlk, hNw, hA⟩ := id C0
  have hown : s.vm.findClass RX7 = some m.cls := hown
  have hl : lv_has ls 2 [(0, .ref (gad w 80)), (1, .int (iz x1))] := hl
  refine lv_aload_n hx hb dX7_nodeRule_0 rfl (lv_at hl 0 rfl) ?_
  refine lv_iload_n hx hb dX7_nodeRule_1 rfl (lv_at hl 1 rfl) ?_
  refine lv_iconst (v := iz 0) hx hb dX7_nodeRule_2 rfl ?_
  obtain ⟨p1, hv⟩ := hv
  refine g_callVi (rest := []) hx hb hml hts hown hNw hA G [.int (iz x1), .int (iz 0)] (c_X7_askNode l w σ _ x1 0 p1) sh_80 rfl wm_542 wm_543 wm_544 wm_5 wm_545 hd_X7_askNode ⟨rfl, rfl, Nat.le_of_ble_eq_true rfl, Nat.le_of_ble_eq_true rfl⟩ rfl hl.1 (Nat.le_of_ble_eq_true rfl) rfl dX7_nodeRule_3 ⟨Nat.zero_le _, Nat.zero_le _⟩ (fun r4 s2 H locs h3 G => ?_)
  have hv := hv r4 s2 h3
  exact g_iret hx hb hr hlk hz G hv dX7_nodeRule_6
abbrev rm_X7_nodeStart : Room := ({ frames := 8, cells := 0, slots := 0, locals := 186 } : Room)
theorem hd_X7_nodeStart : yX7_nodeStart.cls = RX7 ∧ yX7_nodeStart.cls ≠ "java/lang/invoke/MethodHandle" ∧ yX7_nodeStart.cls ≠ "java/lang/invoke/VarHandle" ∧ (parseMethodDescriptor yX7_nodeStart.desc).map (fun d => d.parameters.length) = some 1 := ⟨rfl, by decide +kernel, by decide +kernel, by decide +kernel⟩
set_option maxHeartbeats 4000000 in
set_option maxRecDepth 100000 in
theorem c_X7_nodeStart (l : Launch) (w : GW) (σ : St) (sz : Nat) (x1 : Int) (hp : pre_X7_nodeStart x1 σ) : Met l yX7_nodeStart (Cond.code yX7_nodeStart cX7_nodeStart 2 (some .int) :: wsL_law) rm_X7_nodeStart (gPc w gSL σ sz [.ref (gad w 80), .int (iz x1)]) (gQi w gSL sz (post_X7_nodeStart x1 σ)) 0 0 (gA w gSL.length sz) := by
  have hv : V_X7_nodeStart x1 σ (post_X7_nodeStart x1 σ) := v_X7_nodeStart x1 σ hp
  refine g_met (by decide) [.ref (gad w 80), .int (iz x1)] (Nat.le_of_ble_eq_true rfl) ?_
  intro p e s m below meth c ls hz C0 hl G
  obtain ⟨hx, hb, hr, hml, hown, hts, hlk, hNw, hA⟩ := id C0
  have hown : s.vm.findClass RX7 = some m.cls := hown
  have hl : lv_has ls 2 [(0, .ref (gad w 80)), (1, .int (iz x1))] := hl
  refine lv_aload_n hx hb dX7_nodeStart_0 rfl (lv_at hl 0 rfl) ?_
  refine lv_iload_n hx hb dX7_nodeStart_1 rfl (lv_at hl 1 rfl) ?_
  refine lv_iconst (v := iz 1) hx hb dX7_nodeStart_2 rfl ?_
  obtain ⟨p1, hv⟩ := hv
  refine g_callVi (rest := []) hx hb hml hts hown hNw hA G [.int (iz x1), .int (iz 1)] (c_X7_askNode l w σ _ x1 1 p1) sh_80 rfl wm_542 wm_543 wm_544 wm_5 wm_545 hd_X7_askNode ⟨rfl, rfl, Nat.le_of_ble_eq_true rfl, Nat.le_of_ble_eq_true rfl⟩ rfl hl.1 (Nat.le_of_ble_eq_true rfl) rfl dX7_nodeStart_3 ⟨Nat.zero_le _, Nat.zero_le _⟩ (fun r4 s2 H locs h3 G => ?_)
  have hv := hv r4 s2 h3
  exact g_iret hx hb hr hlk hz G hv dX7_nodeStart_6
abbrev rm_X7_nodeEnd : Room := ({ frames := 8, cells := 0, slots := 0, locals := 186 } : Room)
theorem hd_X7_nodeEnd : yX7_nodeEnd.cls = RX7 ∧ yX7_nodeEnd.cls ≠ "java/lang/invoke/MethodHandle" ∧ yX7_nodeEnd.cls ≠ "java/lang/invoke/VarHandle" ∧ (parseMethodDescriptor yX7_nodeEnd.desc).map (fun d => d.parameters.length) = some 1 := ⟨rfl, by decide +kernel, by decide +kernel, by decide +kernel⟩
set_option maxHeartbeats 4000000 in
set_option maxRecDepth 100000 in
theorem c_X7_nodeEnd (l : Launch) (w : GW) (σ : St) (sz : Nat) (x1 : Int) (hp : pre_X7_nodeEnd x1 σ) : Met l yX7_nodeEnd (Cond.code yX7_nodeEnd cX7_nodeEnd 2 (some .int) :: wsL_law) rm_X7_nodeEnd (gPc w gSL σ sz [.ref (gad w 80), .int (iz x1)]) (gQi w gSL sz (post_X7_nodeEnd x1 σ)) 0 0 (gA w gSL.length sz) := by
  have hv : V_X7_nodeEnd x1 σ (post_X7_nodeEnd x1 σ) := v_X7_nodeEnd x1 σ hp
  refine g_met (by decide) [.ref (gad w 80), .int (iz x1)] (Nat.le_of_ble_eq_true rfl) ?_
  intro p e s m below meth c ls hz C0 hl G
  obtain ⟨hx, hb, hr, hml, hown, hts, hlk, hNw, hA⟩ := id C0
  have hown : s.vm.findClass RX7 = some m.cls := hown
  have hl : lv_has ls 2 [(0, .ref (gad w 80)), (1, .int (iz x1))] := hl
  refine lv_aload_n hx hb dX7_nodeEnd_0 rfl (lv_at hl 0 rfl) ?_
  refine lv_iload_n hx hb dX7_nodeEnd_1 rfl (lv_at hl 1 rfl) ?_
  refine lv_iconst (v := iz 2) hx hb dX7_nodeEnd_2 rfl ?_
  obtain ⟨p1, hv⟩ := hv
  refine g_callVi (rest := []) hx hb hml hts hown hNw hA G [.int (iz x1), .int (iz 2)] (c_X7_askNode l w σ _ x1 2 p1) sh_80 rfl wm_542 wm_543 wm_544 wm_5 wm_545 hd_X7_askNode ⟨rfl, rfl, Nat.le_of_ble_eq_true rfl, Nat.le_of_ble_eq_true rfl⟩ rfl hl.1 (Nat.le_of_ble_eq_true rfl) rfl dX7_nodeEnd_3 ⟨Nat.zero_le _, Nat.zero_le _⟩ (fun r4 s2 H locs h3 G => ?_)
  have hv := hv r4 s2 h3
  exact g_iret hx hb hr hlk hz G hv dX7_nodeEnd_6
abbrev rm_X7_nodeParent : Room := ({ frames := 8, cells := 0, slots := 0, locals := 186 } : Room)
theorem hd_X7_nodeParent : yX7_nodeParent.cls = RX7 ∧ yX7_nodeParent.cls ≠ "java/lang/invoke/MethodHandle" ∧ yX7_nodeParent.cls ≠ "java/lang/invoke/VarHandle" ∧ (parseMethodDescriptor yX7_nodeParent.desc).map (fun d => d.parameters.length) = some 1 := ⟨rfl, by decide +kernel, by decide +kernel, by decide +kernel⟩
set_option maxHeartbeats 4000000 in
set_option maxRecDepth 100000 in
theorem c_X7_nodeParent (l : Launch) (w : GW) (σ : St) (sz : Nat) (x1 : Int) (hp : pre_X7_nodeParent x1 σ) : Met l yX7_nodeParent (Cond.code yX7_nodeParent cX7_nodeParent 2 (some .int) :: wsL_law) rm_X7_nodeParent (gPc w gSL σ sz [.ref (gad w 80), .int (iz x1)]) (gQi w gSL sz (post_X7_nodeParent x1 σ)) 0 0 (gA w gSL.length sz) := by
  have hv : V_X7_nodeParent x1 σ (post_X7_nodeParent x1 σ) := v_X7_nodeParent x1 σ hp
  refine g_met (by decide) [.ref (gad w 80), .int (iz x1)] (Nat.le_of_ble_eq_true rfl) ?_
  intro p e s m below meth c ls hz C0 hl G
  obtain ⟨hx, hb, hr, hml, hown, hts, hlk, hNw, hA⟩ := id C0
  have hown : s.vm.findClass RX7 = some m.cls := hown
  have hl : lv_has ls 2 [(0, .ref (gad w 80)), (1, .int (iz x1))] := hl
  refine lv_aload_n hx hb dX7_nodeParent_0 rfl (lv_at hl 0 rfl) ?_
  refine lv_iload_n hx hb dX7_nodeParent_1 rfl (lv_at hl 1 rfl) ?_
  refine lv_iconst (v := iz 3) hx hb dX7_nodeParent_2 rfl ?_
  obtain ⟨p1, hv⟩ := hv
  refine g_callVi (rest := []) hx hb hml hts hown hNw hA G [.int (iz x1), .int (iz 3)] (c_X7_askNode l w σ _ x1 3 p1) sh_80 rfl wm_542 wm_543 wm_544 wm_5 wm_545 hd_X7_askNode ⟨rfl, rfl, Nat.le_of_ble_eq_true rfl, Nat.le_of_ble_eq_true rfl⟩ rfl hl.1 (Nat.le_of_ble_eq_true rfl) rfl dX7_nodeParent_3 ⟨Nat.zero_le _, Nat.zero_le _⟩ (fun r4 s2 H locs h3 G => ?_)
  have hv := hv r4 s2 h3
  exact g_iret hx hb hr hlk hz G hv dX7_nodeParent_6
abbrev rm_X7_nodeDepth : Room := ({ frames := 8, cells := 0, slots := 0, locals := 186 } : Room)
theorem hd_X7_nodeDepth : yX7_nodeDepth.cls = RX7 ∧ yX7_nodeDepth.cls ≠ "java/lang/invoke/MethodHandle" ∧ yX7_nodeDepth.cls ≠ "java/lang/invoke/VarHandle" ∧ (parseMethodDescriptor yX7_nodeDepth.desc).map (fun d => d.parameters.length) = some 1 := ⟨rfl, by decide +kernel, by decide +kernel, by decide +kernel⟩
set_option maxHeartbeats 4000000 in
set_option maxRecDepth 100000 in
theorem c_X7_nodeDepth (l : Launch) (w : GW) (σ : St) (sz : Nat) (x1 : Int) (hp : pre_X7_nodeDepth x1 σ) : Met l yX7_nodeDepth (Cond.code yX7_nodeDepth cX7_nodeDepth 2 (some .int) :: wsL_law) rm_X7_nodeDepth (gPc w gSL σ sz [.ref (gad w 80), .int (iz x1)]) (gQi w gSL sz (post_X7_nodeDepth x1 σ)) 0 0 (gA w gSL.length sz) := by
  have hv : V_X7_nodeDepth x1 σ (post_X7_nodeDepth x1 σ) := v_X7_nodeDepth x1 σ hp
  refine g_met (by decide) [.ref (gad w 80), .int (iz x1)] (Nat.le_of_ble_eq_true rfl) ?_
  intro p e s m below meth c ls hz C0 hl G
  obtain ⟨hx, hb, hr, hml, hown, hts, hlk, hNw, hA⟩ := id C0
  have hown : s.vm.findClass RX7 = some m.cls := hown
  have hl : lv_has ls 2 [(0, .ref (gad w 80)), (1, .int (iz x1))] := hl
  refine lv_aload_n hx hb dX7_nodeDepth_0 rfl (lv_at hl 0 rfl) ?_
  refine lv_iload_n hx hb dX7_nodeDepth_1 rfl (lv_at hl 1 rfl) ?_
  refine lv_iconst (v := iz 4) hx hb dX7_nodeDepth_2 rfl ?_
  obtain ⟨p1, hv⟩ := hv
  refine g_callVi (rest := []) hx hb hml hts hown hNw hA G [.int (iz x1), .int (iz 4)] (c_X7_askNode l w σ _ x1 4 p1) sh_80 rfl wm_542 wm_543 wm_544 wm_5 wm_545 hd_X7_askNode ⟨rfl, rfl, Nat.le_of_ble_eq_true rfl, Nat.le_of_ble_eq_true rfl⟩ rfl hl.1 (Nat.le_of_ble_eq_true rfl) rfl dX7_nodeDepth_3 ⟨Nat.zero_le _, Nat.zero_le _⟩ (fun r4 s2 H locs h3 G => ?_)
  have hv := hv r4 s2 h3
  exact g_iret hx hb hr hlk hz G hv dX7_nodeDepth_6
abbrev rm_X7_nodeWater : Room := ({ frames := 8, cells := 0, slots := 0, locals := 186 } : Room)
theorem hd_X7_nodeWater : yX7_nodeWater.cls = RX7 ∧ yX7_nodeWater.cls ≠ "java/lang/invoke/MethodHandle" ∧ yX7_nodeWater.cls ≠ "java/lang/invoke/VarHandle" ∧ (parseMethodDescriptor yX7_nodeWater.desc).map (fun d => d.parameters.length) = some 1 := ⟨rfl, by decide +kernel, by decide +kernel, by decide +kernel⟩
set_option maxHeartbeats 4000000 in
set_option maxRecDepth 100000 in
theorem c_X7_nodeWater (l : Launch) (w : GW) (σ : St) (sz : Nat) (x1 : Int) (hp : pre_X7_nodeWater x1 σ) : Met l yX7_nodeWater (Cond.code yX7_nodeWater cX7_nodeWater 2 (some .int) :: wsL_law) rm_X7_nodeWater (gPc w gSL σ sz [.ref (gad w 80), .int (iz x1)]) (gQi w gSL sz (post_X7_nodeWater x1 σ)) 0 0 (gA w gSL.length sz) := by
  have hv : V_X7_nodeWater x1 σ (post_X7_nodeWater x1 σ) := v_X7_nodeWater x1 σ hp
  refine g_met (by decide) [.ref (gad w 80), .int (iz x1)] (Nat.le_of_ble_eq_true rfl) ?_
  intro p e s m below meth c ls hz C0 hl G
  obtain ⟨hx, hb, hr, hml, hown, hts, hlk, hNw, hA⟩ := id C0
  have hown : s.vm.findClass RX7 = some m.cls := hown
  have hl : lv_has ls 2 [(0, .ref (gad w 80)), (1, .int (iz x1))] := hl
  refine lv_aload_n hx hb dX7_nodeWater_0 rfl (lv_at hl 0 rfl) ?_
  refine lv_iload_n hx hb dX7_nodeWater_1 rfl (lv_at hl 1 rfl) ?_
  refine lv_iconst (v := iz 5) hx hb dX7_nodeWater_2 rfl ?_
  obtain ⟨p1, hv⟩ := hv
  refine g_callVi (rest := []) hx hb hml hts hown hNw hA G [.int (iz x1), .int (iz 5)] (c_X7_askNode l w σ _ x1 5 p1) sh_80 rfl wm_542 wm_543 wm_544 wm_5 wm_545 hd_X7_askNode ⟨rfl, rfl, Nat.le_of_ble_eq_true rfl, Nat.le_of_ble_eq_true rfl⟩ rfl hl.1 (Nat.le_of_ble_eq_true rfl) rfl dX7_nodeWater_3 ⟨Nat.zero_le _, Nat.zero_le _⟩ (fun r4 s2 H locs h3 G => ?_)
  have hv := hv r4 s2 h3
  exact g_iret hx hb hr hlk hz G hv dX7_nodeWater_6
abbrev rm_X7_nodeNumber : Room := ({ frames := 8, cells := 0, slots := 0, locals := 186 } : Room)
theorem hd_X7_nodeNumber : yX7_nodeNumber.cls = RX7 ∧ yX7_nodeNumber.cls ≠ "java/lang/invoke/MethodHandle" ∧ yX7_nodeNumber.cls ≠ "java/lang/invoke/VarHandle" ∧ (parseMethodDescriptor yX7_nodeNumber.desc).map (fun d => d.parameters.length) = some 1 := ⟨rfl, by decide +kernel, by decide +kernel, by decide +kernel⟩
set_option maxHeartbeats 4000000 in
set_option maxRecDepth 100000 in
theorem c_X7_nodeNumber (l : Launch) (w : GW) (σ : St) (sz : Nat) (x1 : Int) (hp : pre_X7_nodeNumber x1 σ) : Met l yX7_nodeNumber (Cond.code yX7_nodeNumber cX7_nodeNumber 2 (some .int) :: wsL_law) rm_X7_nodeNumber (gPc w gSL σ sz [.ref (gad w 80), .int (iz x1)]) (gQi w gSL sz (post_X7_nodeNumber x1 σ)) 0 0 (gA w gSL.length sz) := by
  have hv : V_X7_nodeNumber x1 σ (post_X7_nodeNumber x1 σ) := v_X7_nodeNumber x1 σ hp
  refine g_met (by decide) [.ref (gad w 80), .int (iz x1)] (Nat.le_of_ble_eq_true rfl) ?_
  intro p e s m below meth c ls hz C0 hl G
  obtain ⟨hx, hb, hr, hml, hown, hts, hlk, hNw, hA⟩ := id C0
  have hown : s.vm.findClass RX7 = some m.cls := hown
  have hl : lv_has ls 2 [(0, .ref (gad w 80)), (1, .int (iz x1))] := hl
  refine lv_aload_n hx hb dX7_nodeNumber_0 rfl (lv_at hl 0 rfl) ?_
  refine lv_iload_n hx hb dX7_nodeNumber_1 rfl (lv_at hl 1 rfl) ?_
  refine lv_bipush (v := iz 6) hx hb dX7_nodeNumber_2 (by decide +kernel) ?_
  obtain ⟨p1, hv⟩ := hv
  refine g_callVi (rest := []) hx hb hml hts hown hNw hA G [.int (iz x1), .int (iz 6)] (c_X7_askNode l w σ _ x1 6 p1) sh_80 rfl wm_542 wm_543 wm_544 wm_5 wm_545 hd_X7_askNode ⟨rfl, rfl, Nat.le_of_ble_eq_true rfl, Nat.le_of_ble_eq_true rfl⟩ rfl hl.1 (Nat.le_of_ble_eq_true rfl) rfl dX7_nodeNumber_4 ⟨Nat.zero_le _, Nat.zero_le _⟩ (fun r4 s2 H locs h3 G => ?_)
  have hv := hv r4 s2 h3
  exact g_iret hx hb hr hlk hz G hv dX7_nodeNumber_7
abbrev rm_X7_nodeAt : Room := ({ frames := 7, cells := 0, slots := 0, locals := 163 } : Room)
theorem hd_X7_nodeAt : yX7_nodeAt.cls = RX7 ∧ yX7_nodeAt.cls ≠ "java/lang/invoke/MethodHandle" ∧ yX7_nodeAt.cls ≠ "java/lang/invoke/VarHandle" ∧ (parseMethodDescriptor yX7_nodeAt.desc).map (fun d => d.parameters.length) = some 1 := ⟨rfl, by decide +kernel, by decide +kernel, by decide +kernel⟩
set_option maxHeartbeats 4000000 in
set_option maxRecDepth 100000 in
theorem lw_X7_nodeAt_23 {p : Program} {l : Launch} {e : Env} {s : State} {m : MethodId} {args : Array Value} {below : List Frame} {meth : Method} {c : Code} {w : GW} {sz : Nat} (hz : s.heap.size = sz) (C0 : gC p s m args meth c cX7_nodeAt (some .int) 5 yX7_nodeAt.cls (gA w gSL.length sz)) (Q : Int → St → Prop) (y1 : Int) : ∀ (n : Nat) (y2 y3 : Int) (σ : St) (H : Heap) (locs : List Loc) (ls : Array Slot), L_X7_nodeAt_23 Q y1 n y2 y3 σ → gS w gSL σ (gA w gSL.length sz) s s.heap H locs → lv_has ls 5 [(0, .ref (gad w 80)), (1, .int (iz y1)), (2, .int (iz y2)), (3, .int (iz y3))] → W p l e rm_X7_nodeAt s m args below meth c H locs 0 0 (MQ below (gQi w gSL sz Q) args s 0 0 (gA w gSL.length sz)) (F0 m 23 ls []) := by
  obtain ⟨hx, hb, hr, hml, hown, hts, hlk, hNw, hA⟩ := id C0
  have hown : s.vm.findClass RX7 = some m.cls := hown
  intro n
  induction n with
  | zero => intro y2 y3 σ H locs ls hv; exact hv.elim
  | succ n ih =>
    intro y2 y3 σ H locs ls hv G hl
    refine lv_iload_n hx hb dX7_nodeAt_23 rfl (lv_at hl 3 rfl) ?_
    refine lv_aload_n hx hb dX7_nodeAt_24 rfl (lv_at hl 0 rfl) ?_
    refine g_getI hx hb hts hown 12 inlX7 G sh_80 rfl (by decide) rfl wm_489 dX7_nodeAt_25 ?_
    obtain ⟨i10, hv⟩ := hv
    obtain ⟨i11, hv⟩ := hv
    refine g_icmp_ge (tgt := 92) hx hb i10 i11 dX7_nodeAt_28 (by decide) (fun c12 => ?_) (fun c12 => ?_)
    · have hv := hv.1 c12
      refine lv_iload_n hx hb dX7_nodeAt_92 rfl (lv_at hl 2 rfl) ?_
      refine lv_iconst (v := iz (-1)) hx hb dX7_nodeAt_93 rfl ?_
      obtain ⟨i13, hv⟩ := hv
      refine g_icmp_ne (tgt := 101) hx hb i13 ⟨by decide, by decide⟩ dX7_nodeAt_94 (by decide) (fun c14 => ?_) (fun c14 => ?_)
      · have hv := hv.1 c14
        refine lv_aload_n hx hb dX7_nodeAt_101 rfl (lv_at hl 0 rfl) ?_
        refine lv_iload_n hx hb dX7_nodeAt_102 rfl (lv_at hl 2 rfl) ?_
        obtain ⟨p15, hv⟩ := hv
        refine g_callVi (rest := []) hx hb hml hts hown hNw hA G [.int (iz y2)] (c_X7_numberOf l w σ _ y2 p15) sh_80 rfl wm_550 wm_551 wm_552 wm_5 wm_553 hd_X7_numberOf ⟨rfl, rfl, Nat.le_of_ble_eq_true rfl, Nat.le_of_ble_eq_true rfl⟩ rfl hl.1 (Nat.le_of_ble_eq_true rfl) rfl dX7_nodeAt_103 ⟨Nat.zero_le _, Nat.zero_le _⟩ (fun r18 s16 H locs h17 G => ?_)
        have hv := hv r18 s16 h17
        exact g_iret hx hb hr hlk hz G hv dX7_nodeAt_106
      · have hv := hv.2 c14
        refine lv_iconst (v := iz (-1)) hx hb dX7_nodeAt_97 rfl ?_
        refine lv_goto (tgt := 106) hx hb dX7_nodeAt_98 (by decide) ?_
        exact g_iret hx hb hr hlk hz G hv dX7_nodeAt_106
    · have hv := hv.2 c12
      refine lv_aload_n hx hb dX7_nodeAt_31 rfl (lv_at hl 0 rfl) ?_
      refine g_getR hx hb hts hown 8 87 inlX7 G sh_80 rfl (by decide) rfl wm_114 dX7_nodeAt_32 ?_
      refine lv_iload_n hx hb dX7_nodeAt_35 rfl (lv_at hl 3 rfl) ?_
      obtain ⟨o19, hv⟩ := hv
      refine g_ald hx hb G sh_87 o19.1 o19.2 (by decide) dX7_nodeAt_36 ?_
      refine lv_iload_n hx hb dX7_nodeAt_37 rfl (lv_at hl 1 rfl) ?_
      obtain ⟨i20, hv⟩ := hv
      obtain ⟨i21, hv⟩ := hv
      refine g_icmp_gt (tgt := 54) hx hb i20 i21 dX7_nodeAt_38 (by decide) (fun c22 => ?_) (fun c22 => ?_)
      · have hv := hv.1 c22
        refine lv_iconst (v := iz 0) hx hb dX7_nodeAt_54 rfl ?_
        refine lv_istore (lv' := [(4, .int (iz 0)), (0, .ref (gad w 80)), (1, .int (iz y1)), (2, .int (iz y2)), (3, .int (iz y3))]) hx hb dX7_nodeAt_55 hl (by decide) rfl (fun ls hl => ?_)
        refine lv_iload hx hb dX7_nodeAt_57 (lv_at hl 0 rfl) ?_
        refine g_if_eq (tgt := 84) hx hb ⟨by decide, by decide⟩ dX7_nodeAt_59 (by decide) (fun _ => ?_) (fun c => absurd c (by decide))
        refine lv_iload_n hx hb dX7_nodeAt_84 rfl (lv_at hl 3 rfl) ?_
        refine lv_istore_n (lv' := [(2, .int (iz y2)), (4, .int (iz 0)), (0, .ref (gad w 80)), (1, .int (iz y1)), (3, .int (iz y3))]) hx hb dX7_nodeAt_85 rfl hl (by decide) rfl (fun ls hl => ?_)
        refine g_iinc (k := 4) (x := y3) (n := 1) (lv' := [(3, .int (iz (y3 + 1))), (2, .int (iz y2)), (4, .int (iz 0)), (0, .ref (gad w 80)), (1, .int (iz y1))]) hx hb dX7_nodeAt_86 hl rfl (by decide) rfl (fun ls hl => ?_)
        refine lv_goto (tgt := 23) hx hb dX7_nodeAt_89 (by decide) ?_
        exact ih _ _ _ _ _ _ hv G (lv_sub hl [3, 4, 1, 0] rfl)
      · have hv := hv.2 c22
        refine lv_iload_n hx hb dX7_nodeAt_41 rfl (lv_at hl 1 rfl) ?_
        refine lv_aload_n hx hb dX7_nodeAt_42 rfl (lv_at hl 0 rfl) ?_
        refine lv_iload_n hx hb dX7_nodeAt_43 rfl (lv_at hl 3 rfl) ?_
        obtain ⟨p23, hv⟩ := hv
        refine g_callVi (rest := [.int (iz y1)]) hx hb hml hts hown hNw hA G [.int (iz y3)] (c_X7_endOf l w σ _ y3 p23) sh_80 rfl wm_554 wm_555 wm_556 wm_5 wm_557 hd_X7_endOf ⟨rfl, rfl, Nat.le_of_ble_eq_true rfl, Nat.le_of_ble_eq_true rfl⟩ rfl hl.1 (Nat.le_of_ble_eq_true rfl) rfl dX7_nodeAt_44 ⟨Nat.zero_le _, Nat.zero_le _⟩ (fun r26 s24 H locs h25 G => ?_)
        obtain ⟨er26, es24⟩ := h25
        rw [es24] at G
        have hv := hv r26 er26
        obtain ⟨i27, hv⟩ := hv
        refine g_icmp_ge (tgt := 54) hx hb i21 i27 dX7_nodeAt_47 (by decide) (fun c28 => ?_) (fun c28 => ?_)
        · have hv := hv.1 c28
          refine lv_iconst (v := iz 0) hx hb dX7_nodeAt_54 rfl ?_
          refine lv_istore (lv' := [(4, .int (iz 0)), (0, .ref (gad w 80)), (1, .int (iz y1)), (2, .int (iz y2)), (3, .int (iz y3))]) hx hb dX7_nodeAt_55 hl (by decide) rfl (fun ls hl => ?_)
          refine lv_iload hx hb dX7_nodeAt_57 (lv_at hl 0 rfl) ?_
          refine g_if_eq (tgt := 84) hx hb ⟨by decide, by decide⟩ dX7_nodeAt_59 (by decide) (fun _ => ?_) (fun c => absurd c (by decide))
          refine lv_iload_n hx hb dX7_nodeAt_84 rfl (lv_at hl 3 rfl) ?_
          refine lv_istore_n (lv' := [(2, .int (iz y2)), (4, .int (iz 0)), (0, .ref (gad w 80)), (1, .int (iz y1)), (3, .int (iz y3))]) hx hb dX7_nodeAt_85 rfl hl (by decide) rfl (fun ls hl => ?_)
          refine g_iinc (k := 4) (x := y3) (n := 1) (lv' := [(3, .int (iz (y3 + 1))), (2, .int (iz y2)), (4, .int (iz 0)), (0, .ref (gad w 80)), (1, .int (iz y1))]) hx hb dX7_nodeAt_86 hl rfl (by decide) rfl (fun ls hl => ?_)
          refine lv_goto (tgt := 23) hx hb dX7_nodeAt_89 (by decide) ?_
          exact ih _ _ _ _ _ _ hv G (lv_sub hl [3, 4, 1, 0] rfl)
        · have hv := hv.2 c28
          refine lv_iconst (v := iz 1) hx hb dX7_nodeAt_50 rfl ?_
          refine lv_goto (tgt := 55) hx hb dX7_nodeAt_51 (by decide) ?_
          refine lv_istore (lv' := [(4, .int (iz 1)), (0, .ref (gad w 80)), (1, .int (iz y1)), (2, .int (iz y2)), (3, .int (iz y3))]) hx hb dX7_nodeAt_55 hl (by decide) rfl (fun ls hl => ?_)
          refine lv_iload hx hb dX7_nodeAt_57 (lv_at hl 0 rfl) ?_
          refine g_if_eq (tgt := 84) hx hb ⟨by decide, by decide⟩ dX7_nodeAt_59 (by decide) (fun c => absurd c (by decide)) (fun _ => ?_)
          refine lv_iload_n hx hb dX7_nodeAt_62 rfl (lv_at hl 3 rfl) ?_
          refine lv_iconst (v := iz (-1)) hx hb dX7_nodeAt_63 rfl ?_
          obtain ⟨i29, hv⟩ := hv
          refine g_icmp_eq (tgt := 80) hx hb i29 ⟨by decide, by decide⟩ dX7_nodeAt_64 (by decide) (fun c30 => ?_) (fun c30 => ?_)
          · have hv := hv.1 c30
            refine lv_iload_n hx hb dX7_nodeAt_80 rfl (lv_at hl 4 rfl) ?_
            refine lv_goto (tgt := 85) hx hb dX7_nodeAt_81 (by decide) ?_
            refine lv_istore_n (lv' := [(2, .int (iz y3)), (4, .int (iz 1)), (0, .ref (gad w 80)), (1, .int (iz y1)), (3, .int (iz y3))]) hx hb dX7_nodeAt_85 rfl hl (by decide) rfl (fun ls hl => ?_)
            refine g_iinc (k := 4) (x := y3) (n := 1) (lv' := [(3, .int (iz (y3 + 1))), (2, .int (iz y3)), (4, .int (iz 1)), (0, .ref (gad w 80)), (1, .int (iz y1))]) hx hb dX7_nodeAt_86 hl rfl (by decide) rfl (fun ls hl => ?_)
            refine lv_goto (tgt := 23) hx hb dX7_nodeAt_89 (by decide) ?_
            exact ih _ _ _ _ _ _ hv G (lv_sub hl [3, 4, 1, 0] rfl)
          · have hv := hv.2 c30
            refine lv_aload_n hx hb dX7_nodeAt_67 rfl (lv_at hl 1 rfl) ?_
            refine lv_iload_n hx hb dX7_nodeAt_68 rfl (lv_at hl 4 rfl) ?_
            obtain ⟨p31, hv⟩ := hv
            refine g_callVi (rest := []) hx hb hml hts hown hNw hA G [.int (iz y3)] (c_X7_depthOf l w σ _ y3 p31) sh_80 rfl wm_562 wm_563 wm_564 wm_5 wm_565 hd_X7_depthOf ⟨rfl, rfl, Nat.le_of_ble_eq_true rfl, Nat.le_of_ble_eq_true rfl⟩ rfl hl.1 (Nat.le_of_ble_eq_true rfl) rfl dX7_nodeAt_69 ⟨Nat.zero_le _, Nat.zero_le _⟩ (fun r34 s32 H locs h33 G => ?_)
            have hv := hv r34 s32 h33
            refine lv_aload_n hx hb dX7_nodeAt_72 rfl (lv_at hl 1 rfl) ?_
            refine lv_iload_n hx hb dX7_nodeAt_73 rfl (lv_at hl 3 rfl) ?_
            obtain ⟨p35, hv⟩ := hv
            refine g_callVi (rest := [.int (iz r34)]) hx hb hml hts hown hNw hA G [.int (iz y2)] (c_X7_depthOf l w s32 _ y2 p35) sh_80 rfl wm_562 wm_563 wm_564 wm_5 wm_565 hd_X7_depthOf ⟨rfl, rfl, Nat.le_of_ble_eq_true rfl, Nat.le_of_ble_eq_true rfl⟩ rfl hl.1 (Nat.le_of_ble_eq_true rfl) rfl dX7_nodeAt_74 ⟨Nat.zero_le _, Nat.zero_le _⟩ (fun r38 s36 H locs h37 G => ?_)
            have hv := hv r38 s36 h37
            obtain ⟨i39, hv⟩ := hv
            obtain ⟨i40, hv⟩ := hv
            refine g_icmp_le (tgt := 84) hx hb i39 i40 dX7_nodeAt_77 (by decide) (fun c41 => ?_) (fun c41 => ?_)
            · have hv := hv.1 c41
              refine lv_iload_n hx hb dX7_nodeAt_84 rfl (lv_at hl 3 rfl) ?_
              refine lv_istore_n (lv' := [(2, .int (iz y2)), (4, .int (iz 1)), (0, .ref (gad w 80)), (1, .int (iz y1)), (3, .int (iz y3))]) hx hb dX7_nodeAt_85 rfl hl (by decide) rfl (fun ls hl => ?_)
              refine g_iinc (k := 4) (x := y3) (n := 1) (lv' := [(3, .int (iz (y3 + 1))), (2, .int (iz y2)), (4, .int (iz 1)), (0, .ref (gad w 80)), (1, .int (iz y1))]) hx hb dX7_nodeAt_86 hl rfl (by decide) rfl (fun ls hl => ?_)
              refine lv_goto (tgt := 23) hx hb dX7_nodeAt_89 (by decide) ?_
              exact ih _ _ _ _ _ _ hv G (lv_sub hl [3, 4, 1, 0] rfl)
            · have hv := hv.2 c41
              refine lv_iload_n hx hb dX7_nodeAt_80 rfl (lv_at hl 4 rfl) ?_
              refine lv_goto (tgt := 85) hx hb dX7_nodeAt_81 (by decide) ?_
              refine lv_istore_n (lv' := [(2, .int (iz y3)), (4, .int (iz 1)), (0, .ref (gad w 80)), (1, .int (iz y1)), (3, .int (iz y3))]) hx hb dX7_nodeAt_85 rfl hl (by decide) rfl (fun ls hl => ?_)
              refine g_iinc (k := 4) (x := y3) (n := 1) (lv' := [(3, .int (iz (y3 + 1))), (2, .int (iz y3)), (4, .int (iz 1)), (0, .ref (gad w 80)), (1, .int (iz y1))]) hx hb dX7_nodeAt_86 hl rfl (by decide) rfl (fun ls hl => ?_)
              refine lv_goto (tgt := 23) hx hb dX7_nodeAt_89 (by decide) ?_
              exact ih _ _ _ _ _ _ hv G (lv_sub hl [3, 4, 1, 0] rfl)
set_option maxHeartbeats 4000000 in
set_option maxRecDepth 100000 in
theorem c_X7_nodeAt (l : Launch) (w : GW) (σ : St) (sz : Nat) (x1 : Int) (hp : pre_X7_nodeAt x1 σ) : Met l yX7_nodeAt (Cond.code yX7_nodeAt cX7_nodeAt 5 (some .int) :: wsL_law) rm_X7_nodeAt (gPc w gSL σ sz [.ref (gad w 80), .int (iz x1)]) (gQi w gSL sz (post_X7_nodeAt x1 σ)) 0 0 (gA w gSL.length sz) := by
  have hv : V_X7_nodeAt x1 σ (post_X7_nodeAt x1 σ) := v_X7_nodeAt x1 σ hp
  refine g_met (by decide) [.ref (gad w 80), .int (iz x1)] (Nat.le_of_ble_eq_true rfl) ?_
  intro p e s m below meth c ls hz C0 hl G
  obtain ⟨hx, hb, hr, hml, hown, hts, hlk, hNw, hA⟩ := id C0
  have hown : s.vm.findClass RX7 = some m.cls := hown
  have hl : lv_has ls 5 [(0, .ref (gad w 80)), (1, .int (iz x1))] := hl
  refine lv_aload_n hx hb dX7_nodeAt_0 rfl (lv_at hl 0 rfl) ?_
  refine lv_iload_n hx hb dX7_nodeAt_1 rfl (lv_at hl 1 rfl) ?_
  obtain ⟨p1, hv⟩ := hv
  refine g_callVi (rest := []) hx hb hml hts hown hNw hA G [.int (iz x1)] (c_X7_isPosition l w σ _ x1 p1) sh_80 rfl wm_211 wm_212 wm_213 wm_5 wm_214 hd_X7_isPosition ⟨rfl, rfl, Nat.le_of_ble_eq_true rfl, Nat.le_of_ble_eq_true rfl⟩ rfl hl.1 (Nat.le_of_ble_eq_true rfl) rfl dX7_nodeAt_2 ⟨Nat.zero_le _, Nat.zero_le _⟩ (fun r4 s2 H locs h3 G => ?_)
  obtain ⟨er4, es2⟩ := h3
  rw [es2] at G
  have hv := hv r4 er4
  obtain ⟨i5, hv⟩ := hv
  refine g_if_ne (tgt := 15) hx hb i5 dX7_nodeAt_5 (by decide) (fun c6 => ?_) (fun c6 => ?_)
  · have hv := hv.1 c6
    refine lv_aload_n hx hb dX7_nodeAt_15 rfl (lv_at hl 0 rfl) ?_
    obtain ⟨p7, hv⟩ := hv
    refine g_callVv (rest := []) hx hb hml hts hown hNw hA G [] (c_X7_parse l w σ _ p7) sh_80 rfl wm_490 wm_491 wm_492 wm_5 wm_493 hd_X7_parse ⟨rfl, rfl, Nat.le_of_ble_eq_true rfl, Nat.le_of_ble_eq_true rfl⟩ rfl hl.1 (Nat.le_of_ble_eq_true rfl) rfl dX7_nodeAt_16 ⟨Nat.zero_le _, Nat.zero_le _⟩ (fun s8 H locs h9 G => ?_)
    have hv := hv s8 h9
    refine lv_iconst (v := iz (-1)) hx hb dX7_nodeAt_19 rfl ?_
    refine lv_istore_n (lv' := [(2, .int (iz (-1))), (0, .ref (gad w 80)), (1, .int (iz x1))]) hx hb dX7_nodeAt_20 rfl hl (by decide) rfl (fun ls hl => ?_)
    refine lv_iconst (v := iz 0) hx hb dX7_nodeAt_21 rfl ?_
    refine lv_istore_n (lv' := [(3, .int (iz 0)), (2, .int (iz (-1))), (0, .ref (gad w 80)), (1, .int (iz x1))]) hx hb dX7_nodeAt_22 rfl hl (by decide) rfl (fun ls hl => ?_)
    obtain ⟨n_, hv⟩ := hv
    exact lw_X7_nodeAt_23 (l := l) (p := p) (e := e) hz C0 _ x1 n_ _ _ _ _ _ _ hv G (lv_sub hl [2, 3, 1, 0] rfl)
  · have hv := hv.2 c6
    refine lv_aload_n hx hb dX7_nodeAt_8 rfl (lv_at hl 0 rfl) ?_
    refine lv_bipush (v := iz (-2)) hx hb dX7_nodeAt_9 (by decide +kernel) ?_
    obtain ⟨p42, hv⟩ := hv
    refine g_callVi (rest := []) hx hb hml hts hown hNw hA G [.int (iz (-2))] (c_X7_fail l w σ _ (-2) p42) sh_80 rfl wm_182 wm_183 wm_184 wm_5 wm_185 hd_X7_fail ⟨rfl, rfl, Nat.le_of_ble_eq_true rfl, Nat.le_of_ble_eq_true rfl⟩ rfl hl.1 (Nat.le_of_ble_eq_true rfl) rfl dX7_nodeAt_11 ⟨Nat.zero_le _, Nat.zero_le _⟩ (fun r45 s43 H locs h44 G => ?_)
    have hv := hv r45 h44.1 s43 h44.2
    exact g_iret hx hb hr hlk hz G hv dX7_nodeAt_14
abbrev rm_X7_waterLength : Room := ({ frames := 7, cells := 0, slots := 0, locals := 163 } : Room)
theorem hd_X7_waterLength : yX7_waterLength.cls = RX7 ∧ yX7_waterLength.cls ≠ "java/lang/invoke/MethodHandle" ∧ yX7_waterLength.cls ≠ "java/lang/invoke/VarHandle" ∧ (parseMethodDescriptor yX7_waterLength.desc).map (fun d => d.parameters.length) = some 0 := ⟨rfl, by decide +kernel, by decide +kernel, by decide +kernel⟩
set_option maxHeartbeats 4000000 in
set_option maxRecDepth 100000 in
theorem c_X7_waterLength (l : Launch) (w : GW) (σ : St) (sz : Nat) (hp : pre_X7_waterLength σ) : Met l yX7_waterLength (Cond.code yX7_waterLength cX7_waterLength 1 (some .int) :: wsL_law) rm_X7_waterLength (gPc w gSL σ sz [.ref (gad w 80)]) (gQi w gSL sz (post_X7_waterLength σ)) 0 0 (gA w gSL.length sz) := by
  have hv : V_X7_waterLength σ (post_X7_waterLength σ) := v_X7_waterLength σ hp
  refine g_met (by decide) [.ref (gad w 80)] (Nat.le_of_ble_eq_true rfl) ?_
  intro p e s m below meth c ls hz C0 hl G
  obtain ⟨hx, hb, hr, hml, hown, hts, hlk, hNw, hA⟩ := id C0
  have hown : s.vm.findClass RX7 = some m.cls := hown
  have hl : lv_has ls 1 [(0, .ref (gad w 80))] := hl
  refine lv_aload_n hx hb dX7_waterLength_0 rfl (lv_at hl 0 rfl) ?_
  obtain ⟨p1, hv⟩ := hv
  refine g_callVv (rest := []) hx hb hml hts hown hNw hA G [] (c_X7_parse l w σ _ p1) sh_80 rfl wm_490 wm_491 wm_492 wm_5 wm_493 hd_X7_parse ⟨rfl, rfl, Nat.le_of_ble_eq_true rfl, Nat.le_of_ble_eq_true rfl⟩ rfl hl.1 (Nat.le_of_ble_eq_true rfl) rfl dX7_waterLength_1 ⟨Nat.zero_le _, Nat.zero_le _⟩ (fun s2 H locs h3 G => ?_)
  have hv := hv s2 h3
  refine lv_aload_n hx hb dX7_waterLength_4 rfl (lv_at hl 0 rfl) ?_
  refine g_getI hx hb hts hown 14 inlX7 G sh_80 rfl (by decide) rfl wm_494 dX7_waterLength_5 ?_
  exact g_iret hx hb hr hlk hz G hv dX7_waterLength_8
abbrev rm_X7_longestWater : Room := ({ frames := 7, cells := 0, slots := 0, locals := 163 } : Room)
theorem hd_X7_longestWater : yX7_longestWater.cls = RX7 ∧ yX7_longestWater.cls ≠ "java/lang/invoke/MethodHandle" ∧ yX7_longestWater.cls ≠ "java/lang/invoke/VarHandle" ∧ (parseMethodDescriptor yX7_longestWater.desc).map (fun d => d.parameters.length) = some 0 := ⟨rfl, by decide +kernel, by decide +kernel, by decide +kernel⟩
set_option maxHeartbeats 4000000 in
set_option maxRecDepth 100000 in
theorem c_X7_longestWater (l : Launch) (w : GW) (σ : St) (sz : Nat) (hp : pre_X7_longestWater σ) : Met l yX7_longestWater (Cond.code yX7_longestWater cX7_longestWater 1 (some .int) :: wsL_law) rm_X7_longestWater (gPc w gSL σ sz [.ref (gad w 80)]) (gQi w gSL sz (post_X7_longestWater σ)) 0 0 (gA w gSL.length sz) := by
  have hv : V_X7_longestWater σ (post_X7_longestWater σ) := v_X7_longestWater σ hp
  refine g_met (by decide) [.ref (gad w 80)] (Nat.le_of_ble_eq_true rfl) ?_
  intro p e s m below meth c ls hz C0 hl G
  obtain ⟨hx, hb, hr, hml, hown, hts, hlk, hNw, hA⟩ := id C0
  have hown : s.vm.findClass RX7 = some m.cls := hown
  have hl : lv_has ls 1 [(0, .ref (gad w 80))] := hl
  refine lv_aload_n hx hb dX7_longestWater_0 rfl (lv_at hl 0 rfl) ?_
  obtain ⟨p1, hv⟩ := hv
  refine g_callVv (rest := []) hx hb hml hts hown hNw hA G [] (c_X7_parse l w σ _ p1) sh_80 rfl wm_490 wm_491 wm_492 wm_5 wm_493 hd_X7_parse ⟨rfl, rfl, Nat.le_of_ble_eq_true rfl, Nat.le_of_ble_eq_true rfl⟩ rfl hl.1 (Nat.le_of_ble_eq_true rfl) rfl dX7_longestWater_1 ⟨Nat.zero_le _, Nat.zero_le _⟩ (fun s2 H locs h3 G => ?_)
  have hv := hv s2 h3
  refine lv_aload_n hx hb dX7_longestWater_4 rfl (lv_at hl 0 rfl) ?_
  refine g_getI hx hb hts hown 15 inlX7 G sh_80 rfl (by decide) rfl wm_495 dX7_longestWater_5 ?_
  exact g_iret hx hb hr hlk hz G hv dX7_longestWater_8
abbrev rm_X7_countOf : Room := ({ frames := 7, cells := 0, slots := 0, locals := 163 } : Room)
theorem hd_X7_countOf : yX7_countOf.cls = RX7 ∧ yX7_countOf.cls ≠ "java/lang/invoke/MethodHandle" ∧ yX7_countOf.cls ≠ "java/lang/invoke/VarHandle" ∧ (parseMethodDescriptor yX7_countOf.desc).map (fun d => d.parameters.length) = some 1 := ⟨rfl, by decide +kernel, by decide +kernel, by decide +kernel⟩
set_option maxHeartbeats 4000000 in
set_option maxRecDepth 100000 in
theorem lw_X7_countOf_22 {p : Program} {l : Launch} {e : Env} {s : State} {m : MethodId} {args : Array Value} {below : List Frame} {meth : Method} {c : Code} {w : GW} {sz : Nat} (hz : s.heap.size = sz) (C0 : gC p s m args meth c cX7_countOf (some .int) 4 yX7_countOf.cls (gA w gSL.length sz)) (Q : Int → St → Prop) (y1 : Int) : ∀ (n : Nat) (y2 y3 : Int) (σ : St) (H : Heap) (locs : List Loc) (ls : Array Slot), L_X7_countOf_22 Q y1 n y2 y3 σ → gS w gSL σ (gA w gSL.length sz) s s.heap H locs → lv_has ls 4 [(0, .ref (gad w 80)), (1, .int (iz y1)), (2, .int (iz y2)), (3, .int (iz y3))] → W p l e rm_X7_countOf s m args below meth c H locs 0 0 (MQ below (gQi w gSL sz Q) args s 0 0 (gA w gSL.length sz)) (F0 m 22 ls []) := by
  obtain ⟨hx, hb, hr, hml, hown, hts, hlk, hNw, hA⟩ := id C0
  have hown : s.vm.findClass RX7 = some m.cls := hown
  intro n
  induction n with
  | zero => intro y2 y3 σ H locs ls hv; exact hv.elim
  | succ n ih =>
    intro y2 y3 σ H locs ls hv G hl
    refine lv_iload_n hx hb dX7_countOf_22 rfl (lv_at hl 3 rfl) ?_
    refine lv_aload_n hx hb dX7_countOf_23 rfl (lv_at hl 0 rfl) ?_
    refine g_getI hx hb hts hown 12 inlX7 G sh_80 rfl (by decide) rfl wm_489 dX7_countOf_24 ?_
    obtain ⟨i10, hv⟩ := hv
    obtain ⟨i11, hv⟩ := hv
    refine g_icmp_ge (tgt := 54) hx hb i10 i11 dX7_countOf_27 (by decide) (fun c12 => ?_) (fun c12 => ?_)
    · have hv := hv.1 c12
      refine lv_iload_n hx hb dX7_countOf_54 rfl (lv_at hl 2 rfl) ?_
      exact g_iret hx hb hr hlk hz G hv dX7_countOf_55
    · have hv := hv.2 c12
      refine lv_iload_n hx hb dX7_countOf_30 rfl (lv_at hl 2 rfl) ?_
      refine lv_aload_n hx hb dX7_countOf_31 rfl (lv_at hl 0 rfl) ?_
      refine g_getR hx hb hts hown 7 86 inlX7 G sh_80 rfl (by decide) rfl wm_113 dX7_countOf_32 ?_
      refine lv_iload_n hx hb dX7_countOf_35 rfl (lv_at hl 3 rfl) ?_
      obtain ⟨o13, hv⟩ := hv
      refine g_ald hx hb G sh_86 o13.1 o13.2 (by decide) dX7_countOf_36 ?_
      refine lv_iload_n hx hb dX7_countOf_37 rfl (lv_at hl 1 rfl) ?_
      obtain ⟨i14, hv⟩ := hv
      obtain ⟨i15, hv⟩ := hv
      refine g_icmp_ne (tgt := 45) hx hb i14 i15 dX7_countOf_38 (by decide) (fun c16 => ?_) (fun c16 => ?_)
      · have hv := hv.1 c16
        refine lv_iconst (v := iz 0) hx hb dX7_countOf_45 rfl ?_
        refine g_iadd hx hb dX7_countOf_46 ?_
        refine lv_istore_n (lv' := [(2, .int (iz (y2 + 0))), (0, .ref (gad w 80)), (1, .int (iz y1)), (3, .int (iz y3))]) hx hb dX7_countOf_47 rfl hl (by decide) rfl (fun ls hl => ?_)
        refine g_iinc (k := 3) (x := y3) (n := 1) (lv' := [(3, .int (iz (y3 + 1))), (2, .int (iz (y2 + 0))), (0, .ref (gad w 80)), (1, .int (iz y1))]) hx hb dX7_countOf_48 hl rfl (by decide) rfl (fun ls hl => ?_)
        refine lv_goto (tgt := 22) hx hb dX7_countOf_51 (by decide) ?_
        exact ih _ _ _ _ _ _ hv G (lv_sub hl [2, 3, 1, 0] rfl)
      · have hv := hv.2 c16
        refine lv_iconst (v := iz 1) hx hb dX7_countOf_41 rfl ?_
        refine lv_goto (tgt := 46) hx hb dX7_countOf_42 (by decide) ?_
        refine g_iadd hx hb dX7_countOf_46 ?_
        refine lv_istore_n (lv' := [(2, .int (iz (y2 + 1))), (0, .ref (gad w 80)), (1, .int (iz y1)), (3, .int (iz y3))]) hx hb dX7_countOf_47 rfl hl (by decide) rfl (fun ls hl => ?_)
        refine g_iinc (k := 3) (x := y3) (n := 1) (lv' := [(3, .int (iz (y3 + 1))), (2, .int (iz (y2 + 1))), (0, .ref (gad w 80)), (1, .int (iz y1))]) hx hb dX7_countOf_48 hl rfl (by decide) rfl (fun ls hl => ?_)
        refine lv_goto (tgt := 22) hx hb dX7_countOf_51 (by decide) ?_
        exact ih _ _ _ _ _ _ hv G (lv_sub hl [2, 3, 1, 0] rfl)
set_option maxHeartbeats 4000000 in
set_option maxRecDepth 100000 in
theorem c_X7_countOf (l : Launch) (w : GW) (σ : St) (sz : Nat) (x1 : Int) (hp : pre_X7_countOf x1 σ) : Met l yX7_countOf (Cond.code yX7_countOf cX7_countOf 4 (some .int) :: wsL_law) rm_X7_countOf (gPc w gSL σ sz [.ref (gad w 80), .int (iz x1)]) (gQi w gSL sz (post_X7_countOf x1 σ)) 0 0 (gA w gSL.length sz) := by
  have hv : V_X7_countOf x1 σ (post_X7_countOf x1 σ) := v_X7_countOf x1 σ hp
  refine g_met (by decide) [.ref (gad w 80), .int (iz x1)] (Nat.le_of_ble_eq_true rfl) ?_
  intro p e s m below meth c ls hz C0 hl G
  obtain ⟨hx, hb, hr, hml, hown, hts, hlk, hNw, hA⟩ := id C0
  have hown : s.vm.findClass RX7 = some m.cls := hown
  have hl : lv_has ls 4 [(0, .ref (gad w 80)), (1, .int (iz x1))] := hl
  refine lv_iload_n hx hb dX7_countOf_0 rfl (lv_at hl 1 rfl) ?_
  obtain ⟨p1, hv⟩ := hv
  refine g_callSi (rest := []) hx hb hml hts hown hNw hA G [.int (iz x1)] (c_X7_isRule l w σ _ x1 p1) wm_281 wm_282 wm_5 wm_283 hd_X7_isRule ⟨rfl, rfl, Nat.le_of_ble_eq_true rfl, Nat.le_of_ble_eq_true rfl⟩ rfl hl.1 (Nat.le_of_ble_eq_true rfl) rfl dX7_countOf_1 ⟨Nat.zero_le _, Nat.zero_le _⟩ (fun r4 s2 H locs h3 G => ?_)
  obtain ⟨er4, es2⟩ := h3
  rw [es2] at G
  have hv := hv r4 er4
  obtain ⟨i5, hv⟩ := hv
  refine g_if_ne (tgt := 14) hx hb i5 dX7_countOf_4 (by decide) (fun c6 => ?_) (fun c6 => ?_)
  · have hv := hv.1 c6
    refine lv_aload_n hx hb dX7_countOf_14 rfl (lv_at hl 0 rfl) ?_
    obtain ⟨p7, hv⟩ := hv
    refine g_callVv (rest := []) hx hb hml hts hown hNw hA G [] (c_X7_parse l w σ _ p7) sh_80 rfl wm_490 wm_491 wm_492 wm_5 wm_493 hd_X7_parse ⟨rfl, rfl, Nat.le_of_ble_eq_true rfl, Nat.le_of_ble_eq_true rfl⟩ rfl hl.1 (Nat.le_of_ble_eq_true rfl) rfl dX7_countOf_15 ⟨Nat.zero_le _, Nat.zero_le _⟩ (fun s8 H locs h9 G => ?_)
    have hv := hv s8 h9
    refine lv_iconst (v := iz 0) hx hb dX7_countOf_18 rfl ?_
    refine lv_istore_n (lv' := [(2, .int (iz 0)), (0, .ref (gad w 80)), (1, .int (iz x1))]) hx hb dX7_countOf_19 rfl hl (by decide) rfl (fun ls hl => ?_)
    refine lv_iconst (v := iz 0) hx hb dX7_countOf_20 rfl ?_
    refine lv_istore_n (lv' := [(3, .int (iz 0)), (2, .int (iz 0)), (0, .ref (gad w 80)), (1, .int (iz x1))]) hx hb dX7_countOf_21 rfl hl (by decide) rfl (fun ls hl => ?_)
    obtain ⟨n_, hv⟩ := hv
    exact lw_X7_countOf_22 (l := l) (p := p) (e := e) hz C0 _ x1 n_ _ _ _ _ _ _ hv G (lv_sub hl [2, 3, 1, 0] rfl)
  · have hv := hv.2 c6
    refine lv_aload_n hx hb dX7_countOf_7 rfl (lv_at hl 0 rfl) ?_
    refine lv_bipush (v := iz (-2)) hx hb dX7_countOf_8 (by decide +kernel) ?_
    obtain ⟨p17, hv⟩ := hv
    refine g_callVi (rest := []) hx hb hml hts hown hNw hA G [.int (iz (-2))] (c_X7_fail l w σ _ (-2) p17) sh_80 rfl wm_182 wm_183 wm_184 wm_5 wm_185 hd_X7_fail ⟨rfl, rfl, Nat.le_of_ble_eq_true rfl, Nat.le_of_ble_eq_true rfl⟩ rfl hl.1 (Nat.le_of_ble_eq_true rfl) rfl dX7_countOf_10 ⟨Nat.zero_le _, Nat.zero_le _⟩ (fun r20 s18 H locs h19 G => ?_)
    have hv := hv r20 h19.1 s18 h19.2
    exact g_iret hx hb hr hlk hz G hv dX7_countOf_13
abbrev rm_X7_undo : Room := ({ frames := 1, cells := 0, slots := 0, locals := 21 } : Room)
theorem hd_X7_undo : yX7_undo.cls = RX7 ∧ yX7_undo.cls ≠ "java/lang/invoke/MethodHandle" ∧ yX7_undo.cls ≠ "java/lang/invoke/VarHandle" ∧ (parseMethodDescriptor yX7_undo.desc).map (fun d => d.parameters.length) = some 0 := ⟨rfl, by decide +kernel, by decide +kernel, by decide +kernel⟩
set_option maxHeartbeats 4000000 in
set_option maxRecDepth 100000 in
theorem lw_X7_undo_26 {p : Program} {l : Launch} {e : Env} {s : State} {m : MethodId} {args : Array Value} {below : List Frame} {meth : Method} {c : Code} {w : GW} {sz : Nat} (hz : s.heap.size = sz) (C0 : gC p s m args meth c cX7_undo (some .int) 2 yX7_undo.cls (gA w gSL.length sz)) (Q : Int → St → Prop) : ∀ (n : Nat) (y1 : Int) (σ : St) (H : Heap) (locs : List Loc) (ls : Array Slot), L_X7_undo_26 Q n y1 σ → gS w gSL σ (gA w gSL.length sz) s s.heap H locs → lv_has ls 2 [(0, .ref (gad w 80)), (1, .int (iz y1))] → W p l e rm_X7_undo s m args below meth c H locs 0 0 (MQ below (gQi w gSL sz Q) args s 0 0 (gA w gSL.length sz)) (F0 m 26 ls []) := by
  obtain ⟨hx, hb, hr, hml, hown, hts, hlk, hNw, hA⟩ := id C0
  have hown : s.vm.findClass RX7 = some m.cls := hown
  intro n
  induction n with
  | zero => intro y1 σ H locs ls hv; exact hv.elim
  | succ n ih =>
    intro y1 σ H locs ls hv G hl
    refine lv_iload_n hx hb dX7_undo_26 rfl (lv_at hl 1 rfl) ?_
    refine lv_sipush (v := iz 161) hx hb dX7_undo_27 (by decide +kernel) ?_
    obtain ⟨i4, hv⟩ := hv
    refine g_icmp_ge (tgt := 60) hx hb i4 ⟨by decide, by decide⟩ dX7_undo_30 (by decide) (fun c5 => ?_) (fun c5 => ?_)
    · have hv := hv.1 c5
      refine lv_aload_n hx hb dX7_undo_60 rfl (lv_at hl 0 rfl) ?_
      refine g_getI hx hb hts hown 2 inlX7 G sh_80 rfl (by decide) rfl wm_190 dX7_undo_61 ?_
      exact g_iret hx hb hr hlk hz G hv dX7_undo_64
    · have hv := hv.2 c5
      refine lv_aload_n hx hb dX7_undo_33 rfl (lv_at hl 0 rfl) ?_
      refine g_getR hx hb hts hown 0 81 inlX7 G sh_80 rfl (by decide) rfl wm_108 dX7_undo_34 ?_
      refine lv_iload_n hx hb dX7_undo_37 rfl (lv_at hl 1 rfl) ?_
      refine lv_aload_n hx hb dX7_undo_38 rfl (lv_at hl 0 rfl) ?_
      refine g_getR hx hb hts hown 1 82 inlX7 G sh_80 rfl (by decide) rfl wm_109 dX7_undo_39 ?_
      refine lv_sipush (v := iz 161) hx hb dX7_undo_42 (by decide +kernel) ?_
      refine lv_aload_n hx hb dX7_undo_45 rfl (lv_at hl 0 rfl) ?_
      refine g_getI hx hb hts hown 2 inlX7 G sh_80 rfl (by decide) rfl wm_190 dX7_undo_46 ?_
      refine g_imul hx hb dX7_undo_49 ?_
      refine lv_iload_n hx hb dX7_undo_50 rfl (lv_at hl 1 rfl) ?_
      refine g_iadd hx hb dX7_undo_51 ?_
      obtain ⟨o6, hv⟩ := hv
      refine g_ald hx hb G sh_82 o6.1 o6.2 (by decide) dX7_undo_52 ?_
      obtain ⟨o7, hv⟩ := hv
      refine g_ast hx hb G sh_81 o7.1 o7.2 (by decide) dX7_undo_53 (fun s8 es8 H locs G => ?_)
      have hv := hv s8 es8
      refine g_iinc (k := 1) (x := y1) (n := 1) (lv' := [(1, .int (iz (y1 + 1))), (0, .ref (gad w 80))]) hx hb dX7_undo_54 hl rfl (by decide) rfl (fun ls hl => ?_)
      refine lv_goto (tgt := 26) hx hb dX7_undo_57 (by decide) ?_
      exact ih _ _ _ _ _ hv G (lv_sub hl [1, 0] rfl)
set_option maxHeartbeats 4000000 in
set_option maxRecDepth 100000 in
theorem c_X7_undo (l : Launch) (w : GW) (σ : St) (sz : Nat) (hp : pre_X7_undo σ) : Met l yX7_undo (Cond.code yX7_undo cX7_undo 2 (some .int) :: wsL_law) rm_X7_undo (gPc w gSL σ sz [.ref (gad w 80)]) (gQi w gSL sz (post_X7_undo σ)) 0 0 (gA w gSL.length sz) := by
  have hv : V_X7_undo σ (post_X7_undo σ) := v_X7_undo σ hp
  refine g_met (by decide) [.ref (gad w 80)] (Nat.le_of_ble_eq_true rfl) ?_
  intro p e s m below meth c ls hz C0 hl G
  obtain ⟨hx, hb, hr, hml, hown, hts, hlk, hNw, hA⟩ := id C0
  have hown : s.vm.findClass RX7 = some m.cls := hown
  have hl : lv_has ls 2 [(0, .ref (gad w 80))] := hl
  refine lv_aload_n hx hb dX7_undo_0 rfl (lv_at hl 0 rfl) ?_
  refine g_getI hx hb hts hown 2 inlX7 G sh_80 rfl (by decide) rfl wm_190 dX7_undo_1 ?_
  obtain ⟨i1, hv⟩ := hv
  refine g_if_ne (tgt := 14) hx hb i1 dX7_undo_4 (by decide) (fun c2 => ?_) (fun c2 => ?_)
  · have hv := hv.1 c2
    refine lv_aload_n hx hb dX7_undo_14 rfl (lv_at hl 0 rfl) ?_
    refine lv_dup hx hb dX7_undo_15 rfl ?_
    refine g_getI hx hb hts hown 2 inlX7 G sh_80 rfl (by decide) rfl wm_190 dX7_undo_16 ?_
    refine lv_iconst (v := iz 1) hx hb dX7_undo_19 rfl ?_
    refine g_isub hx hb dX7_undo_20 ?_
    refine g_putI hx hb hts hown 2 inlX7 tyX7 tyX7_ok nmX7 G sh_80 rfl (by decide) rfl wm_190 rfl rfl rfl dX7_undo_21 (fun s3 es3 H locs G => ?_)
    have hv := hv s3 es3
    refine lv_iconst (v := iz 0) hx hb dX7_undo_24 rfl ?_
    refine lv_istore_n (lv' := [(1, .int (iz 0)), (0, .ref (gad w 80))]) hx hb dX7_undo_25 rfl hl (by decide) rfl (fun ls hl => ?_)
    obtain ⟨n_, hv⟩ := hv
    exact lw_X7_undo_26 (l := l) (p := p) (e := e) hz C0 _ n_ _ _ _ _ _ hv G (lv_sub hl [1, 0] rfl)
  · have hv := hv.2 c2
    refine lv_aload_n hx hb dX7_undo_7 rfl (lv_at hl 0 rfl) ?_
    refine lv_bipush (v := iz (-3)) hx hb dX7_undo_8 (by decide +kernel) ?_
    obtain ⟨p9, hv⟩ := hv
    refine g_callVi (rest := []) hx hb hml hts hown hNw hA G [.int (iz (-3))] (c_X7_fail l w σ _ (-3) p9) sh_80 rfl wm_182 wm_183 wm_184 wm_5 wm_185 hd_X7_fail ⟨rfl, rfl, Nat.le_of_ble_eq_true rfl, Nat.le_of_ble_eq_true rfl⟩ rfl hl.1 (Nat.le_of_ble_eq_true rfl) rfl dX7_undo_10 ⟨Nat.zero_le _, Nat.zero_le _⟩ (fun r12 s10 H locs h11 G => ?_)
    have hv := hv r12 h11.1 s10 h11.2
    exact g_iret hx hb hr hlk hz G hv dX7_undo_13
abbrev rm_X7_errorCount : Room := ({ frames := 1, cells := 0, slots := 0, locals := 22 } : Room)
theorem hd_X7_errorCount : yX7_errorCount.cls = RX7 ∧ yX7_errorCount.cls ≠ "java/lang/invoke/MethodHandle" ∧ yX7_errorCount.cls ≠ "java/lang/invoke/VarHandle" ∧ (parseMethodDescriptor yX7_errorCount.desc).map (fun d => d.parameters.length) = some 1 := ⟨rfl, by decide +kernel, by decide +kernel, by decide +kernel⟩
set_option maxHeartbeats 4000000 in
set_option maxRecDepth 100000 in
theorem c_X7_errorCount (l : Launch) (w : GW) (σ : St) (sz : Nat) (x1 : Int) (hp : pre_X7_errorCount x1 σ) : Met l yX7_errorCount (Cond.code yX7_errorCount cX7_errorCount 2 (some .int) :: wsL_law) rm_X7_errorCount (gPc w gSL σ sz [.ref (gad w 80), .int (iz x1)]) (gQi w gSL sz (post_X7_errorCount x1 σ)) 0 0 (gA w gSL.length sz) := by
  have hv : V_X7_errorCount x1 σ (post_X7_errorCount x1 σ) := v_X7_errorCount x1 σ hp
  refine g_met (by decide) [.ref (gad w 80), .int (iz x1)] (Nat.le_of_ble_eq_true rfl) ?_
  intro p e s m below meth c ls hz C0 hl G
  obtain ⟨hx, hb, hr, hml, hown, hts, hlk, hNw, hA⟩ := id C0
  have hown : s.vm.findClass RX7 = some m.cls := hown
  have hl : lv_has ls 2 [(0, .ref (gad w 80)), (1, .int (iz x1))] := hl
  refine lv_iload_n hx hb dX7_errorCount_0 rfl (lv_at hl 1 rfl) ?_
  refine lv_iconst (v := iz 0) hx hb dX7_errorCount_1 rfl ?_
  refine lv_iconst (v := iz 2) hx hb dX7_errorCount_2 rfl ?_
  obtain ⟨p1, hv⟩ := hv
  refine g_callSi (rest := []) hx hb hml hts hown hNw hA G [.int (iz x1), .int (iz 0), .int (iz 2)] (c_X7_in l w σ _ x1 0 2 p1) wm_176 wm_177 wm_5 wm_178 hd_X7_in ⟨rfl, rfl, Nat.le_of_ble_eq_true rfl, Nat.le_of_ble_eq_true rfl⟩ rfl hl.1 (Nat.le_of_ble_eq_true rfl) rfl dX7_errorCount_3 ⟨Nat.zero_le _, Nat.zero_le _⟩ (fun r4 s2 H locs h3 G => ?_)
  obtain ⟨er4, es2⟩ := h3
  rw [es2] at G
  have hv := hv r4 er4
  obtain ⟨i5, hv⟩ := hv
  refine g_if_eq (tgt := 18) hx hb i5 dX7_errorCount_6 (by decide) (fun c6 => ?_) (fun c6 => ?_)
  · have hv := hv.1 c6
    refine lv_aload_n hx hb dX7_errorCount_18 rfl (lv_at hl 0 rfl) ?_
    refine lv_bipush (v := iz (-2)) hx hb dX7_errorCount_19 (by decide +kernel) ?_
    obtain ⟨p7, hv⟩ := hv
    refine g_callVi (rest := []) hx hb hml hts hown hNw hA G [.int (iz (-2))] (c_X7_fail l w σ _ (-2) p7) sh_80 rfl wm_182 wm_183 wm_184 wm_5 wm_185 hd_X7_fail ⟨rfl, rfl, Nat.le_of_ble_eq_true rfl, Nat.le_of_ble_eq_true rfl⟩ rfl hl.1 (Nat.le_of_ble_eq_true rfl) rfl dX7_errorCount_21 ⟨Nat.zero_le _, Nat.zero_le _⟩ (fun r10 s8 H locs h9 G => ?_)
    have hv := hv r10 h9.1 s8 h9.2
    exact g_iret hx hb hr hlk hz G hv dX7_errorCount_24
  · have hv := hv.2 c6
    refine lv_aload_n hx hb dX7_errorCount_9 rfl (lv_at hl 0 rfl) ?_
    refine g_getR hx hb hts hown 5 84 inlX7 G sh_80 rfl (by decide) rfl wm_111 dX7_errorCount_10 ?_
    refine lv_iload_n hx hb dX7_errorCount_13 rfl (lv_at hl 1 rfl) ?_
    obtain ⟨o11, hv⟩ := hv
    refine g_ald hx hb G sh_84 o11.1 o11.2 (by decide) dX7_errorCount_14 ?_
    refine lv_goto (tgt := 24) hx hb dX7_errorCount_15 (by decide) ?_
    exact g_iret hx hb hr hlk hz G hv dX7_errorCount_24
abbrev rm_X7_mix : Room := ({ frames := 0, cells := 0, slots := 0, locals := 0 } : Room)
theorem hd_X7_mix : yX7_mix.cls = RX7 ∧ yX7_mix.cls ≠ "java/lang/invoke/MethodHandle" ∧ yX7_mix.cls ≠ "java/lang/invoke/VarHandle" ∧ (parseMethodDescriptor yX7_mix.desc).map (fun d => d.parameters.length) = some 1 := ⟨rfl, by decide +kernel, by decide +kernel, by decide +kernel⟩
set_option maxHeartbeats 4000000 in
set_option maxRecDepth 100000 in
theorem c_X7_mix (l : Launch) (w : GW) (σ : St) (sz : Nat) (x1 : Int) (hp : pre_X7_mix x1 σ) : Met l yX7_mix (Cond.code yX7_mix cX7_mix 2 none :: wsL_law) rm_X7_mix (gPc w gSL σ sz [.ref (gad w 80), .int (iz x1)]) (gQv w gSL sz (post_X7_mix x1 σ)) 0 0 (gA w gSL.length sz) := by
  have hv : V_X7_mix x1 σ (post_X7_mix x1 σ) := v_X7_mix x1 σ hp
  refine g_met (by decide) [.ref (gad w 80), .int (iz x1)] (Nat.le_of_ble_eq_true rfl) ?_
  intro p e s m below meth c ls hz C0 hl G
  obtain ⟨hx, hb, hr, hml, hown, hts, hlk, hNw, hA⟩ := id C0
  have hown : s.vm.findClass RX7 = some m.cls := hown
  have hl : lv_has ls 2 [(0, .ref (gad w 80)), (1, .int (iz x1))] := hl
  refine lv_aload_n hx hb dX7_mix_0 rfl (lv_at hl 0 rfl) ?_
  refine lv_ldc2 (v := lz 31) hx hb hown (hts _ wm_746) dX7_mix_1 ?_
  refine lv_aload_n hx hb dX7_mix_4 rfl (lv_at hl 0 rfl) ?_
  refine g_getL hx hb hts hown 16 inlX7 G sh_80 rfl (by decide) rfl wm_741 dX7_mix_5 ?_
  refine g_lmul hx hb dX7_mix_8 ?_
  refine lv_iload_n hx hb dX7_mix_9 rfl (lv_at hl 1 rfl) ?_
  obtain ⟨i1, hv⟩ := hv
  refine g_i2l hx hb i1 dX7_mix_10 ?_
  refine g_ladd hx hb dX7_mix_11 ?_
  refine g_putL hx hb hts hown 16 inlX7 tyX7 tyX7_ok nmX7 G sh_80 rfl (by decide) rfl wm_741 rfl rfl rfl dX7_mix_12 (fun s2 es2 H locs G => ?_)
  have hv := hv s2 es2
  exact g_vret hx hb hr hlk hz G hv dX7_mix_15
abbrev rm_X7_mixRules : Room := ({ frames := 1, cells := 0, slots := 0, locals := 22 } : Room)
theorem hd_X7_mixRules : yX7_mixRules.cls = RX7 ∧ yX7_mixRules.cls ≠ "java/lang/invoke/MethodHandle" ∧ yX7_mixRules.cls ≠ "java/lang/invoke/VarHandle" ∧ (parseMethodDescriptor yX7_mixRules.desc).map (fun d => d.parameters.length) = some 0 := ⟨rfl, by decide +kernel, by decide +kernel, by decide +kernel⟩
set_option maxHeartbeats 4000000 in
set_option maxRecDepth 100000 in
theorem lw_X7_mixRules_23 {p : Program} {l : Launch} {e : Env} {s : State} {m : MethodId} {args : Array Value} {below : List Frame} {meth : Method} {c : Code} {w : GW} {sz : Nat} (hz : s.heap.size = sz) (C0 : gC p s m args meth c cX7_mixRules none 3 yX7_mixRules.cls (gA w gSL.length sz)) (Q : St → Prop) (K : St → Prop) (y1 : Int) (hK : ∀ (σ : St) (H : Heap) (locs : List Loc) (ls : Array Slot), K  σ → gS w gSL σ (gA w gSL.length sz) s s.heap H locs → lv_has ls 3 [(0, .ref (gad w 80)), (1, .int (iz y1))] → W p l e rm_X7_mixRules s m args below meth c H locs 0 0 (MQ below (gQv w gSL sz Q) args s 0 0 (gA w gSL.length sz)) (F0 m 52 ls [])) : ∀ (n : Nat) (y2 : Int) (σ : St) (H : Heap) (locs : List Loc) (ls : Array Slot), L_X7_mixRules_23 Q K y1 n y2 σ → gS w gSL σ (gA w gSL.length sz) s s.heap H locs → lv_has ls 3 [(0, .ref (gad w 80)), (1, .int (iz y1)), (2, .int (iz y2))] → W p l e rm_X7_mixRules s m args below meth c H locs 0 0 (MQ below (gQv w gSL sz Q) args s 0 0 (gA w gSL.length sz)) (F0 m 23 ls []) := by
  obtain ⟨hx, hb, hr, hml, hown, hts, hlk, hNw, hA⟩ := id C0
  have hown : s.vm.findClass RX7 = some m.cls := hown
  intro n
  induction n with
  | zero => intro y2 σ H locs ls hv; exact hv.elim
  | succ n ih =>
    intro y2 σ H locs ls hv G hl
    refine lv_iload_n hx hb dX7_mixRules_23 rfl (lv_at hl 2 rfl) ?_
    refine lv_aload_n hx hb dX7_mixRules_24 rfl (lv_at hl 0 rfl) ?_
    refine g_getR hx hb hts hown 0 81 inlX7 G sh_80 rfl (by decide) rfl wm_108 dX7_mixRules_25 ?_
    refine lv_bipush (v := iz 101) hx hb dX7_mixRules_28 (by decide +kernel) ?_
    refine lv_iload_n hx hb dX7_mixRules_30 rfl (lv_at hl 1 rfl) ?_
    refine g_iadd hx hb dX7_mixRules_31 ?_
    obtain ⟨o7, hv⟩ := hv
    refine g_ald hx hb G sh_81 o7.1 o7.2 (by decide) dX7_mixRules_32 ?_
    obtain ⟨i8, hv⟩ := hv
    obtain ⟨i9, hv⟩ := hv
    refine g_icmp_ge (tgt := 52) hx hb i8 i9 dX7_mixRules_33 (by decide) (fun c10 => ?_) (fun c10 => ?_)
    · have hv := hv.1 c10
      exact hK  _ _ _ _ hv G (lv_sub hl [0, 1] rfl)
    · have hv := hv.2 c10
      refine lv_aload_n hx hb dX7_mixRules_36 rfl (lv_at hl 0 rfl) ?_
      refine lv_aload_n hx hb dX7_mixRules_37 rfl (lv_at hl 0 rfl) ?_
      refine lv_iload_n hx hb dX7_mixRules_38 rfl (lv_at hl 1 rfl) ?_
      refine lv_iload_n hx hb dX7_mixRules_39 rfl (lv_at hl 2 rfl) ?_
      obtain ⟨p11, hv⟩ := hv
      refine g_callVi (rest := [.ref (gad w 80)]) hx hb hml hts hown hNw hA G [.int (iz y1), .int (iz y2)] (c_X7_elementOf l w σ _ y1 y2 p11) sh_80 rfl wm_327 wm_328 wm_329 wm_5 wm_330 hd_X7_elementOf ⟨rfl, rfl, Nat.le_of_ble_eq_true rfl, Nat.le_of_ble_eq_true rfl⟩ rfl hl.1 (Nat.le_of_ble_eq_true rfl) rfl dX7_mixRules_40 ⟨Nat.zero_le _, Nat.zero_le _⟩ (fun r14 s12 H locs h13 G => ?_)
      obtain ⟨er14, es12⟩ := h13
      rw [es12] at G
      have hv := hv r14 er14
      obtain ⟨p15, hv⟩ := hv
      refine g_callVv (rest := []) hx hb hml hts hown hNw hA G [.int (iz r14)] (c_X7_mix l w σ _ r14 p15) sh_80 rfl wm_742 wm_743 wm_744 wm_5 wm_745 hd_X7_mix ⟨rfl, rfl, Nat.le_of_ble_eq_true rfl, Nat.le_of_ble_eq_true rfl⟩ rfl hl.1 (Nat.le_of_ble_eq_true rfl) rfl dX7_mixRules_43 ⟨Nat.zero_le _, Nat.zero_le _⟩ (fun s16 H locs h17 G => ?_)
      have hv := hv s16 h17
      refine g_iinc (k := 2) (x := y2) (n := 1) (lv' := [(2, .int (iz (y2 + 1))), (0, .ref (gad w 80)), (1, .int (iz y1))]) hx hb dX7_mixRules_46 hl rfl (by decide) rfl (fun ls hl => ?_)
      refine lv_goto (tgt := 23) hx hb dX7_mixRules_49 (by decide) ?_
      exact ih _ _ _ _ _ hv G (lv_sub hl [1, 2, 0] rfl)
set_option maxHeartbeats 4000000 in
set_option maxRecDepth 100000 in
theorem lw_X7_mixRules_2 {p : Program} {l : Launch} {e : Env} {s : State} {m : MethodId} {args : Array Value} {below : List Frame} {meth : Method} {c : Code} {w : GW} {sz : Nat} (hz : s.heap.size = sz) (C0 : gC p s m args meth c cX7_mixRules none 3 yX7_mixRules.cls (gA w gSL.length sz)) (Q : St → Prop) : ∀ (n : Nat) (y1 : Int) (σ : St) (H : Heap) (locs : List Loc) (ls : Array Slot), L_X7_mixRules_2 Q n y1 σ → gS w gSL σ (gA w gSL.length sz) s s.heap H locs → lv_has ls 3 [(0, .ref (gad w 80)), (1, .int (iz y1))] → W p l e rm_X7_mixRules s m args below meth c H locs 0 0 (MQ below (gQv w gSL sz Q) args s 0 0 (gA w gSL.length sz)) (F0 m 2 ls []) := by
  obtain ⟨hx, hb, hr, hml, hown, hts, hlk, hNw, hA⟩ := id C0
  have hown : s.vm.findClass RX7 = some m.cls := hown
  intro n
  induction n with
  | zero => intro y1 σ H locs ls hv; exact hv.elim
  | succ n ih =>
    intro y1 σ H locs ls hv G hl
    refine lv_iload_n hx hb dX7_mixRules_2 rfl (lv_at hl 1 rfl) ?_
    refine lv_bipush (v := iz 6) hx hb dX7_mixRules_3 (by decide +kernel) ?_
    obtain ⟨i1, hv⟩ := hv
    refine g_icmp_ge (tgt := 72) hx hb i1 ⟨by decide, by decide⟩ dX7_mixRules_5 (by decide) (fun c2 => ?_) (fun c2 => ?_)
    · have hv := hv.1 c2
      exact g_vret hx hb hr hlk hz G hv dX7_mixRules_72
    · have hv := hv.2 c2
      refine lv_aload_n hx hb dX7_mixRules_8 rfl (lv_at hl 0 rfl) ?_
      refine lv_aload_n hx hb dX7_mixRules_9 rfl (lv_at hl 0 rfl) ?_
      refine g_getR hx hb hts hown 0 81 inlX7 G sh_80 rfl (by decide) rfl wm_108 dX7_mixRules_10 ?_
      refine lv_bipush (v := iz 101) hx hb dX7_mixRules_13 (by decide +kernel) ?_
      refine lv_iload_n hx hb dX7_mixRules_15 rfl (lv_at hl 1 rfl) ?_
      refine g_iadd hx hb dX7_mixRules_16 ?_
      obtain ⟨o3, hv⟩ := hv
      refine g_ald hx hb G sh_81 o3.1 o3.2 (by decide) dX7_mixRules_17 ?_
      obtain ⟨p4, hv⟩ := hv
      refine g_callVv (rest := []) hx hb hml hts hown hNw hA G [.int (iz (σ 81 (101 + y1)))] (c_X7_mix l w σ _ (σ 81 (101 + y1)) p4) sh_80 rfl wm_742 wm_743 wm_744 wm_5 wm_745 hd_X7_mix ⟨rfl, rfl, Nat.le_of_ble_eq_true rfl, Nat.le_of_ble_eq_true rfl⟩ rfl hl.1 (Nat.le_of_ble_eq_true rfl) rfl dX7_mixRules_18 ⟨Nat.zero_le _, Nat.zero_le _⟩ (fun s5 H locs h6 G => ?_)
      have hv := hv s5 h6
      refine lv_iconst (v := iz 0) hx hb dX7_mixRules_21 rfl ?_
      refine lv_istore_n (lv' := [(2, .int (iz 0)), (0, .ref (gad w 80)), (1, .int (iz y1))]) hx hb dX7_mixRules_22 rfl hl (by decide) rfl (fun ls hl => ?_)
      obtain ⟨n_, hv⟩ := hv
      refine lw_X7_mixRules_23 (l := l) (p := p) (e := e) hz C0 Q _ y1 (fun  s18 H locs ls hv G hl => ?_) n_ _ _ _ _ _ hv G (lv_sub hl [1, 2, 0] rfl)
      refine lv_aload_n hx hb dX7_mixRules_52 rfl (lv_at hl 0 rfl) ?_
      refine lv_aload_n hx hb dX7_mixRules_53 rfl (lv_at hl 0 rfl) ?_
      refine g_getR hx hb hts hown 0 81 inlX7 G sh_80 rfl (by decide) rfl wm_108 dX7_mixRules_54 ?_
      refine lv_sipush (v := iz 155) hx hb dX7_mixRules_57 (by decide +kernel) ?_
      refine lv_iload_n hx hb dX7_mixRules_60 rfl (lv_at hl 1 rfl) ?_
      refine g_iadd hx hb dX7_mixRules_61 ?_
      obtain ⟨o19, hv⟩ := hv
      refine g_ald hx hb G sh_81 o19.1 o19.2 (by decide) dX7_mixRules_62 ?_
      obtain ⟨p20, hv⟩ := hv
      refine g_callVv (rest := []) hx hb hml hts hown hNw hA G [.int (iz (s18 81 (155 + y1)))] (c_X7_mix l w s18 _ (s18 81 (155 + y1)) p20) sh_80 rfl wm_742 wm_743 wm_744 wm_5 wm_745 hd_X7_mix ⟨rfl, rfl, Nat.le_of_ble_eq_true rfl, Nat.le_of_ble_eq_true rfl⟩ rfl hl.1 (Nat.le_of_ble_eq_true rfl) rfl dX7_mixRules_63 ⟨Nat.zero_le _, Nat.zero_le _⟩ (fun s21 H locs h22 G => ?_)
      have hv := hv s21 h22
      refine g_iinc (k := 1) (x := y1) (n := 1) (lv' := [(1, .int (iz (y1 + 1))), (0, .ref (gad w 80))]) hx hb dX7_mixRules_66 hl rfl (by decide) rfl (fun ls hl => ?_)
      refine lv_goto (tgt := 2) hx hb dX7_mixRules_69 (by decide) ?_
      exact ih _ _ _ _ _ hv G (lv_sub hl [1, 0] rfl)
set_option maxHeartbeats 4000000 in
set_option maxRecDepth 100000 in
theorem c_X7_mixRules (l : Launch) (w : GW) (σ : St) (sz : Nat) (hp : pre_X7_mixRules σ) : Met l yX7_mixRules (Cond.code yX7_mixRules cX7_mixRules 3 none :: wsL_law) rm_X7_mixRules (gPc w gSL σ sz [.ref (gad w 80)]) (gQv w gSL sz (post_X7_mixRules σ)) 0 0 (gA w gSL.length sz) := by
  have hv : V_X7_mixRules σ (post_X7_mixRules σ) := v_X7_mixRules σ hp
  refine g_met (by decide) [.ref (gad w 80)] (Nat.le_of_ble_eq_true rfl) ?_
  intro p e s m below meth c ls hz C0 hl G
  obtain ⟨hx, hb, hr, hml, hown, hts, hlk, hNw, hA⟩ := id C0
  have hown : s.vm.findClass RX7 = some m.cls := hown
  have hl : lv_has ls 3 [(0, .ref (gad w 80))] := hl
  refine lv_iconst (v := iz 0) hx hb dX7_mixRules_0 rfl ?_
  refine lv_istore_n (lv' := [(1, .int (iz 0)), (0, .ref (gad w 80))]) hx hb dX7_mixRules_1 rfl hl (by decide) rfl (fun ls hl => ?_)
  obtain ⟨n_, hv⟩ := hv
  exact lw_X7_mixRules_2 (l := l) (p := p) (e := e) hz C0 _ n_ _ _ _ _ _ hv G (lv_sub hl [1, 0] rfl)
abbrev rm_X7_digest : Room := ({ frames := 7, cells := 0, slots := 0, locals := 163 } : Room)
theorem hd_X7_digest : yX7_digest.cls = RX7 ∧ yX7_digest.cls ≠ "java/lang/invoke/MethodHandle" ∧ yX7_digest.cls ≠ "java/lang/invoke/VarHandle" ∧ (parseMethodDescriptor yX7_digest.desc).map (fun d => d.parameters.length) = some 0 := ⟨rfl, by decide +kernel, by decide +kernel, by decide +kernel⟩
set_option maxHeartbeats 4000000 in
set_option maxRecDepth 100000 in
theorem lw_X7_digest_111 {p : Program} {l : Launch} {e : Env} {s : State} {m : MethodId} {args : Array Value} {below : List Frame} {meth : Method} {c : Code} {w : GW} {sz : Nat} (hz : s.heap.size = sz) (C0 : gC p s m args meth c cX7_digest (some .long) 3 yX7_digest.cls (gA w gSL.length sz)) (Q : Int → St → Prop) : ∀ (n : Nat) (y1 : Int) (σ : St) (H : Heap) (locs : List Loc) (ls : Array Slot), L_X7_digest_111 Q n y1 σ → gS w gSL σ (gA w gSL.length sz) s s.heap H locs → lv_has ls 3 [(0, .ref (gad w 80)), (1, .int (iz y1))] → W p l e rm_X7_digest s m args below meth c H locs 0 0 (MQ below (gQl w gSL sz Q) args s 0 0 (gA w gSL.length sz)) (F0 m 111 ls []) := by
  obtain ⟨hx, hb, hr, hml, hown, hts, hlk, hNw, hA⟩ := id C0
  have hown : s.vm.findClass RX7 = some m.cls := hown
  intro n
  induction n with
  | zero => intro y1 σ H locs ls hv; exact hv.elim
  | succ n ih =>
    intro y1 σ H locs ls hv G hl
    refine lv_iload_n hx hb dX7_digest_111 rfl (lv_at hl 1 rfl) ?_
    refine lv_aload_n hx hb dX7_digest_112 rfl (lv_at hl 0 rfl) ?_
    refine g_getI hx hb hts hown 12 inlX7 G sh_80 rfl (by decide) rfl wm_489 dX7_digest_113 ?_
    obtain ⟨i32, hv⟩ := hv
    obtain ⟨i33, hv⟩ := hv
    refine g_icmp_ge (tgt := 189) hx hb i32 i33 dX7_digest_116 (by decide) (fun c34 => ?_) (fun c34 => ?_)
    · have hv := hv.1 c34
      refine lv_aload_n hx hb dX7_digest_189 rfl (lv_at hl 0 rfl) ?_
      refine lv_aload_n hx hb dX7_digest_190 rfl (lv_at hl 0 rfl) ?_
      refine g_getI hx hb hts hown 14 inlX7 G sh_80 rfl (by decide) rfl wm_494 dX7_digest_191 ?_
      obtain ⟨p35, hv⟩ := hv
      refine g_callVv (rest := []) hx hb hml hts hown hNw hA G [.int (iz (σ 80 14))] (c_X7_mix l w σ _ (σ 80 14) p35) sh_80 rfl wm_742 wm_743 wm_744 wm_5 wm_745 hd_X7_mix ⟨rfl, rfl, Nat.le_of_ble_eq_true rfl, Nat.le_of_ble_eq_true rfl⟩ rfl hl.1 (Nat.le_of_ble_eq_true rfl) rfl dX7_digest_194 ⟨Nat.zero_le _, Nat.zero_le _⟩ (fun s36 H locs h37 G => ?_)
      have hv := hv s36 h37
      refine lv_aload_n hx hb dX7_digest_197 rfl (lv_at hl 0 rfl) ?_
      refine lv_aload_n hx hb dX7_digest_198 rfl (lv_at hl 0 rfl) ?_
      refine g_getI hx hb hts hown 15 inlX7 G sh_80 rfl (by decide) rfl wm_495 dX7_digest_199 ?_
      obtain ⟨p38, hv⟩ := hv
      refine g_callVv (rest := []) hx hb hml hts hown hNw hA G [.int (iz (s36 80 15))] (c_X7_mix l w s36 _ (s36 80 15) p38) sh_80 rfl wm_742 wm_743 wm_744 wm_5 wm_745 hd_X7_mix ⟨rfl, rfl, Nat.le_of_ble_eq_true rfl, Nat.le_of_ble_eq_true rfl⟩ rfl hl.1 (Nat.le_of_ble_eq_true rfl) rfl dX7_digest_202 ⟨Nat.zero_le _, Nat.zero_le _⟩ (fun s39 H locs h40 G => ?_)
      have hv := hv s39 h40
      refine lv_aload_n hx hb dX7_digest_205 rfl (lv_at hl 0 rfl) ?_
      refine g_getL hx hb hts hown 16 inlX7 G sh_80 rfl (by decide) rfl wm_741 dX7_digest_206 ?_
      exact g_lret hx hb hr hlk hz G hv dX7_digest_209
    · have hv := hv.2 c34
      refine lv_aload_n hx hb dX7_digest_119 rfl (lv_at hl 0 rfl) ?_
      refine lv_iload_n hx hb dX7_digest_120 rfl (lv_at hl 1 rfl) ?_
      obtain ⟨p41, hv⟩ := hv
      refine g_callVi (rest := []) hx hb hml hts hown hNw hA G [.int (iz y1)] (c_X7_foundOf l w σ _ y1 p41) sh_80 rfl wm_546 wm_547 wm_548 wm_5 wm_549 hd_X7_foundOf ⟨rfl, rfl, Nat.le_of_ble_eq_true rfl, Nat.le_of_ble_eq_true rfl⟩ rfl hl.1 (Nat.le_of_ble_eq_true rfl) rfl dX7_digest_121 ⟨Nat.zero_le _, Nat.zero_le _⟩ (fun r44 s42 H locs h43 G => ?_)
      have hv := hv r44 s42 h43
      refine lv_istore_n (lv' := [(2, .int (iz r44)), (0, .ref (gad w 80)), (1, .int (iz y1))]) hx hb dX7_digest_124 rfl hl (by decide) rfl (fun ls hl => ?_)
      refine lv_aload_n hx hb dX7_digest_125 rfl (lv_at hl 1 rfl) ?_
      refine lv_aload_n hx hb dX7_digest_126 rfl (lv_at hl 1 rfl) ?_
      refine g_getR hx hb hts hown 7 86 inlX7 G sh_80 rfl (by decide) rfl wm_113 dX7_digest_127 ?_
      refine lv_iload_n hx hb dX7_digest_130 rfl (lv_at hl 0 rfl) ?_
      obtain ⟨o45, hv⟩ := hv
      refine g_ald hx hb G sh_86 o45.1 o45.2 (by decide) dX7_digest_131 ?_
      obtain ⟨p46, hv⟩ := hv
      refine g_callVv (rest := []) hx hb hml hts hown hNw hA G [.int (iz (s42 86 r44))] (c_X7_mix l w s42 _ (s42 86 r44) p46) sh_80 rfl wm_742 wm_743 wm_744 wm_5 wm_745 hd_X7_mix ⟨rfl, rfl, Nat.le_of_ble_eq_true rfl, Nat.le_of_ble_eq_true rfl⟩ rfl hl.1 (Nat.le_of_ble_eq_true rfl) rfl dX7_digest_132 ⟨Nat.zero_le _, Nat.zero_le _⟩ (fun s47 H locs h48 G => ?_)
      have hv := hv s47 h48
      refine lv_aload_n hx hb dX7_digest_135 rfl (lv_at hl 1 rfl) ?_
      refine lv_aload_n hx hb dX7_digest_136 rfl (lv_at hl 1 rfl) ?_
      refine g_getR hx hb hts hown 8 87 inlX7 G sh_80 rfl (by decide) rfl wm_114 dX7_digest_137 ?_
      refine lv_iload_n hx hb dX7_digest_140 rfl (lv_at hl 0 rfl) ?_
      obtain ⟨o49, hv⟩ := hv
      refine g_ald hx hb G sh_87 o49.1 o49.2 (by decide) dX7_digest_141 ?_
      obtain ⟨p50, hv⟩ := hv
      refine g_callVv (rest := []) hx hb hml hts hown hNw hA G [.int (iz (s47 87 r44))] (c_X7_mix l w s47 _ (s47 87 r44) p50) sh_80 rfl wm_742 wm_743 wm_744 wm_5 wm_745 hd_X7_mix ⟨rfl, rfl, Nat.le_of_ble_eq_true rfl, Nat.le_of_ble_eq_true rfl⟩ rfl hl.1 (Nat.le_of_ble_eq_true rfl) rfl dX7_digest_142 ⟨Nat.zero_le _, Nat.zero_le _⟩ (fun s51 H locs h52 G => ?_)
      have hv := hv s51 h52
      refine lv_aload_n hx hb dX7_digest_145 rfl (lv_at hl 1 rfl) ?_
      refine lv_aload_n hx hb dX7_digest_146 rfl (lv_at hl 1 rfl) ?_
      refine lv_iload_n hx hb dX7_digest_147 rfl (lv_at hl 0 rfl) ?_
      obtain ⟨p53, hv⟩ := hv
      refine g_callVi (rest := [.ref (gad w 80)]) hx hb hml hts hown hNw hA G [.int (iz r44)] (c_X7_endOf l w s51 _ r44 p53) sh_80 rfl wm_554 wm_555 wm_556 wm_5 wm_557 hd_X7_endOf ⟨rfl, rfl, Nat.le_of_ble_eq_true rfl, Nat.le_of_ble_eq_true rfl⟩ rfl hl.1 (Nat.le_of_ble_eq_true rfl) rfl dX7_digest_148 ⟨Nat.zero_le _, Nat.zero_le _⟩ (fun r56 s54 H locs h55 G => ?_)
      obtain ⟨er56, es54⟩ := h55
      rw [es54] at G
      have hv := hv r56 er56
      obtain ⟨p57, hv⟩ := hv
      refine g_callVv (rest := []) hx hb hml hts hown hNw hA G [.int (iz r56)] (c_X7_mix l w s51 _ r56 p57) sh_80 rfl wm_742 wm_743 wm_744 wm_5 wm_745 hd_X7_mix ⟨rfl, rfl, Nat.le_of_ble_eq_true rfl, Nat.le_of_ble_eq_true rfl⟩ rfl hl.1 (Nat.le_of_ble_eq_true rfl) rfl dX7_digest_151 ⟨Nat.zero_le _, Nat.zero_le _⟩ (fun s58 H locs h59 G => ?_)
      have hv := hv s58 h59
      refine lv_aload_n hx hb dX7_digest_154 rfl (lv_at hl 1 rfl) ?_
      refine lv_aload_n hx hb dX7_digest_155 rfl (lv_at hl 1 rfl) ?_
      refine lv_iload_n hx hb dX7_digest_156 rfl (lv_at hl 0 rfl) ?_
      obtain ⟨p60, hv⟩ := hv
      refine g_callVi (rest := [.ref (gad w 80)]) hx hb hml hts hown hNw hA G [.int (iz r44)] (c_X7_parentOf l w s58 _ r44 p60) sh_80 rfl wm_558 wm_559 wm_560 wm_5 wm_561 hd_X7_parentOf ⟨rfl, rfl, Nat.le_of_ble_eq_true rfl, Nat.le_of_ble_eq_true rfl⟩ rfl hl.1 (Nat.le_of_ble_eq_true rfl) rfl dX7_digest_157 ⟨Nat.zero_le _, Nat.zero_le _⟩ (fun r63 s61 H locs h62 G => ?_)
      have hv := hv r63 s61 h62
      obtain ⟨p64, hv⟩ := hv
      refine g_callVv (rest := []) hx hb hml hts hown hNw hA G [.int (iz r63)] (c_X7_mix l w s61 _ r63 p64) sh_80 rfl wm_742 wm_743 wm_744 wm_5 wm_745 hd_X7_mix ⟨rfl, rfl, Nat.le_of_ble_eq_true rfl, Nat.le_of_ble_eq_true rfl⟩ rfl hl.1 (Nat.le_of_ble_eq_true rfl) rfl dX7_digest_160 ⟨Nat.zero_le _, Nat.zero_le _⟩ (fun s65 H locs h66 G => ?_)
      have hv := hv s65 h66
      refine lv_aload_n hx hb dX7_digest_163 rfl (lv_at hl 1 rfl) ?_
      refine lv_aload_n hx hb dX7_digest_164 rfl (lv_at hl 1 rfl) ?_
      refine g_getR hx hb hts hown 10 89 inlX7 G sh_80 rfl (by decide) rfl wm_116 dX7_digest_165 ?_
      refine lv_iload_n hx hb dX7_digest_168 rfl (lv_at hl 0 rfl) ?_
      obtain ⟨o67, hv⟩ := hv
      refine g_ald hx hb G sh_89 o67.1 o67.2 (by decide) dX7_digest_169 ?_
      obtain ⟨p68, hv⟩ := hv
      refine g_callVv (rest := []) hx hb hml hts hown hNw hA G [.int (iz (s65 89 r44))] (c_X7_mix l w s65 _ (s65 89 r44) p68) sh_80 rfl wm_742 wm_743 wm_744 wm_5 wm_745 hd_X7_mix ⟨rfl, rfl, Nat.le_of_ble_eq_true rfl, Nat.le_of_ble_eq_true rfl⟩ rfl hl.1 (Nat.le_of_ble_eq_true rfl) rfl dX7_digest_170 ⟨Nat.zero_le _, Nat.zero_le _⟩ (fun s69 H locs h70 G => ?_)
      have hv := hv s69 h70
      refine lv_aload_n hx hb dX7_digest_173 rfl (lv_at hl 1 rfl) ?_
      refine lv_aload_n hx hb dX7_digest_174 rfl (lv_at hl 1 rfl) ?_
      refine g_getR hx hb hts hown 11 90 inlX7 G sh_80 rfl (by decide) rfl wm_117 dX7_digest_175 ?_
      refine lv_iload_n hx hb dX7_digest_178 rfl (lv_at hl 0 rfl) ?_
      obtain ⟨o71, hv⟩ := hv
      refine g_ald hx hb G sh_90 o71.1 o71.2 (by decide) dX7_digest_179 ?_
      obtain ⟨p72, hv⟩ := hv
      refine g_callVv (rest := []) hx hb hml hts hown hNw hA G [.int (iz (s69 90 r44))] (c_X7_mix l w s69 _ (s69 90 r44) p72) sh_80 rfl wm_742 wm_743 wm_744 wm_5 wm_745 hd_X7_mix ⟨rfl, rfl, Nat.le_of_ble_eq_true rfl, Nat.le_of_ble_eq_true rfl⟩ rfl hl.1 (Nat.le_of_ble_eq_true rfl) rfl dX7_digest_180 ⟨Nat.zero_le _, Nat.zero_le _⟩ (fun s73 H locs h74 G => ?_)
      have hv := hv s73 h74
      refine g_iinc (k := 2) (x := y1) (n := 1) (lv' := [(1, .int (iz (y1 + 1))), (2, .int (iz r44)), (0, .ref (gad w 80))]) hx hb dX7_digest_183 hl rfl (by decide) rfl (fun ls hl => ?_)
      refine lv_goto (tgt := 111) hx hb dX7_digest_186 (by decide) ?_
      exact ih _ _ _ _ _ hv G (lv_sub hl [2, 0] rfl)
set_option maxHeartbeats 4000000 in
set_option maxRecDepth 100000 in
theorem lw_X7_digest_69 {p : Program} {l : Launch} {e : Env} {s : State} {m : MethodId} {args : Array Value} {below : List Frame} {meth : Method} {c : Code} {w : GW} {sz : Nat} (hz : s.heap.size = sz) (C0 : gC p s m args meth c cX7_digest (some .long) 3 yX7_digest.cls (gA w gSL.length sz)) (Q : Int → St → Prop) : ∀ (n : Nat) (y1 : Int) (σ : St) (H : Heap) (locs : List Loc) (ls : Array Slot), L_X7_digest_69 Q n y1 σ → gS w gSL σ (gA w gSL.length sz) s s.heap H locs → lv_has ls 3 [(0, .ref (gad w 80)), (1, .int (iz y1))] → W p l e rm_X7_digest s m args below meth c H locs 0 0 (MQ below (gQl w gSL sz Q) args s 0 0 (gA w gSL.length sz)) (F0 m 69 ls []) := by
  obtain ⟨hx, hb, hr, hml, hown, hts, hlk, hNw, hA⟩ := id C0
  have hown : s.vm.findClass RX7 = some m.cls := hown
  intro n
  induction n with
  | zero => intro y1 σ H locs ls hv; exact hv.elim
  | succ n ih =>
    intro y1 σ H locs ls hv G hl
    refine lv_iload_n hx hb dX7_digest_69 rfl (lv_at hl 1 rfl) ?_
    refine lv_aload_n hx hb dX7_digest_70 rfl (lv_at hl 0 rfl) ?_
    refine g_getR hx hb hts hown 0 81 inlX7 G sh_80 rfl (by decide) rfl wm_108 dX7_digest_71 ?_
    refine lv_iconst (v := iz 0) hx hb dX7_digest_74 rfl ?_
    refine g_ald hx hb G sh_81 (by decide) (by decide) (by decide) dX7_digest_75 ?_
    obtain ⟨i23, hv⟩ := hv
    obtain ⟨i24, hv⟩ := hv
    refine g_icmp_ge (tgt := 97) hx hb i23 i24 dX7_digest_76 (by decide) (fun c25 => ?_) (fun c25 => ?_)
    · have hv := hv.1 c25
      refine lv_aload_n hx hb dX7_digest_97 rfl (lv_at hl 0 rfl) ?_
      obtain ⟨p26, hv⟩ := hv
      refine g_callVv (rest := []) hx hb hml hts hown hNw hA G [] (c_X7_mixRules l w σ _ p26) sh_80 rfl wm_747 wm_748 wm_749 wm_5 wm_750 hd_X7_mixRules ⟨rfl, rfl, Nat.le_of_ble_eq_true rfl, Nat.le_of_ble_eq_true rfl⟩ rfl hl.1 (Nat.le_of_ble_eq_true rfl) rfl dX7_digest_98 ⟨Nat.zero_le _, Nat.zero_le _⟩ (fun s27 H locs h28 G => ?_)
      have hv := hv s27 h28
      refine lv_aload_n hx hb dX7_digest_101 rfl (lv_at hl 0 rfl) ?_
      refine lv_aload_n hx hb dX7_digest_102 rfl (lv_at hl 0 rfl) ?_
      refine g_getI hx hb hts hown 12 inlX7 G sh_80 rfl (by decide) rfl wm_489 dX7_digest_103 ?_
      obtain ⟨p29, hv⟩ := hv
      refine g_callVv (rest := []) hx hb hml hts hown hNw hA G [.int (iz (s27 80 12))] (c_X7_mix l w s27 _ (s27 80 12) p29) sh_80 rfl wm_742 wm_743 wm_744 wm_5 wm_745 hd_X7_mix ⟨rfl, rfl, Nat.le_of_ble_eq_true rfl, Nat.le_of_ble_eq_true rfl⟩ rfl hl.1 (Nat.le_of_ble_eq_true rfl) rfl dX7_digest_106 ⟨Nat.zero_le _, Nat.zero_le _⟩ (fun s30 H locs h31 G => ?_)
      have hv := hv s30 h31
      refine lv_iconst (v := iz 0) hx hb dX7_digest_109 rfl ?_
      refine lv_istore_n (lv' := [(1, .int (iz 0)), (0, .ref (gad w 80))]) hx hb dX7_digest_110 rfl hl (by decide) rfl (fun ls hl => ?_)
      obtain ⟨n_, hv⟩ := hv
      exact lw_X7_digest_111 (l := l) (p := p) (e := e) hz C0 _ n_ _ _ _ _ _ hv G (lv_sub hl [1, 0] rfl)
    · have hv := hv.2 c25
      refine lv_aload_n hx hb dX7_digest_79 rfl (lv_at hl 0 rfl) ?_
      refine lv_aload_n hx hb dX7_digest_80 rfl (lv_at hl 0 rfl) ?_
      refine g_getR hx hb hts hown 0 81 inlX7 G sh_80 rfl (by decide) rfl wm_108 dX7_digest_81 ?_
      refine lv_iconst (v := iz 1) hx hb dX7_digest_84 rfl ?_
      refine lv_iload_n hx hb dX7_digest_85 rfl (lv_at hl 1 rfl) ?_
      refine g_iadd hx hb dX7_digest_86 ?_
      obtain ⟨o75, hv⟩ := hv
      refine g_ald hx hb G sh_81 o75.1 o75.2 (by decide) dX7_digest_87 ?_
      obtain ⟨p76, hv⟩ := hv
      refine g_callVv (rest := []) hx hb hml hts hown hNw hA G [.int (iz (σ 81 (1 + y1)))] (c_X7_mix l w σ _ (σ 81 (1 + y1)) p76) sh_80 rfl wm_742 wm_743 wm_744 wm_5 wm_745 hd_X7_mix ⟨rfl, rfl, Nat.le_of_ble_eq_true rfl, Nat.le_of_ble_eq_true rfl⟩ rfl hl.1 (Nat.le_of_ble_eq_true rfl) rfl dX7_digest_88 ⟨Nat.zero_le _, Nat.zero_le _⟩ (fun s77 H locs h78 G => ?_)
      have hv := hv s77 h78
      refine g_iinc (k := 1) (x := y1) (n := 1) (lv' := [(1, .int (iz (y1 + 1))), (0, .ref (gad w 80))]) hx hb dX7_digest_91 hl rfl (by decide) rfl (fun ls hl => ?_)
      refine lv_goto (tgt := 69) hx hb dX7_digest_94 (by decide) ?_
      exact ih _ _ _ _ _ hv G (lv_sub hl [1, 0] rfl)
set_option maxHeartbeats 4000000 in
set_option maxRecDepth 100000 in
theorem c_X7_digest (l : Launch) (w : GW) (σ : St) (sz : Nat) (hp : pre_X7_digest σ) : Met l yX7_digest (Cond.code yX7_digest cX7_digest 3 (some .long) :: wsL_law) rm_X7_digest (gPc w gSL σ sz [.ref (gad w 80)]) (gQl w gSL sz (post_X7_digest σ)) 0 0 (gA w gSL.length sz) := by
  have hv : V_X7_digest σ (post_X7_digest σ) := v_X7_digest σ hp
  refine g_met (by decide) [.ref (gad w 80)] (Nat.le_of_ble_eq_true rfl) ?_
  intro p e s m below meth c ls hz C0 hl G
  obtain ⟨hx, hb, hr, hml, hown, hts, hlk, hNw, hA⟩ := id C0
  have hown : s.vm.findClass RX7 = some m.cls := hown
  have hl : lv_has ls 3 [(0, .ref (gad w 80))] := hl
  refine lv_aload_n hx hb dX7_digest_0 rfl (lv_at hl 0 rfl) ?_
  obtain ⟨p1, hv⟩ := hv
  refine g_callVv (rest := []) hx hb hml hts hown hNw hA G [] (c_X7_parse l w σ _ p1) sh_80 rfl wm_490 wm_491 wm_492 wm_5 wm_493 hd_X7_parse ⟨rfl, rfl, Nat.le_of_ble_eq_true rfl, Nat.le_of_ble_eq_true rfl⟩ rfl hl.1 (Nat.le_of_ble_eq_true rfl) rfl dX7_digest_1 ⟨Nat.zero_le _, Nat.zero_le _⟩ (fun s2 H locs h3 G => ?_)
  have hv := hv s2 h3
  refine lv_aload_n hx hb dX7_digest_4 rfl (lv_at hl 0 rfl) ?_
  refine lv_ldc2 (v := lz 17305) hx hb hown (hts _ wm_740) dX7_digest_5 ?_
  refine g_putL hx hb hts hown 16 inlX7 tyX7 tyX7_ok nmX7 G sh_80 rfl (by decide) rfl wm_741 rfl rfl rfl dX7_digest_8 (fun s4 es4 H locs G => ?_)
  have hv := hv s4 es4
  refine lv_aload_n hx hb dX7_digest_11 rfl (lv_at hl 0 rfl) ?_
  refine lv_aload_n hx hb dX7_digest_12 rfl (lv_at hl 0 rfl) ?_
  refine g_getR hx hb hts hown 5 84 inlX7 G sh_80 rfl (by decide) rfl wm_111 dX7_digest_13 ?_
  refine lv_iconst (v := iz 0) hx hb dX7_digest_16 rfl ?_
  refine g_ald hx hb G sh_84 (by decide) (by decide) (by decide) dX7_digest_17 ?_
  obtain ⟨p5, hv⟩ := hv
  refine g_callVv (rest := []) hx hb hml hts hown hNw hA G [.int (iz (s4 84 0))] (c_X7_mix l w s4 _ (s4 84 0) p5) sh_80 rfl wm_742 wm_743 wm_744 wm_5 wm_745 hd_X7_mix ⟨rfl, rfl, Nat.le_of_ble_eq_true rfl, Nat.le_of_ble_eq_true rfl⟩ rfl hl.1 (Nat.le_of_ble_eq_true rfl) rfl dX7_digest_18 ⟨Nat.zero_le _, Nat.zero_le _⟩ (fun s6 H locs h7 G => ?_)
  have hv := hv s6 h7
  refine lv_aload_n hx hb dX7_digest_21 rfl (lv_at hl 0 rfl) ?_
  refine lv_aload_n hx hb dX7_digest_22 rfl (lv_at hl 0 rfl) ?_
  refine g_getR hx hb hts hown 5 84 inlX7 G sh_80 rfl (by decide) rfl wm_111 dX7_digest_23 ?_
  refine lv_iconst (v := iz 1) hx hb dX7_digest_26 rfl ?_
  refine g_ald hx hb G sh_84 (by decide) (by decide) (by decide) dX7_digest_27 ?_
  obtain ⟨p8, hv⟩ := hv
  refine g_callVv (rest := []) hx hb hml hts hown hNw hA G [.int (iz (s6 84 1))] (c_X7_mix l w s6 _ (s6 84 1) p8) sh_80 rfl wm_742 wm_743 wm_744 wm_5 wm_745 hd_X7_mix ⟨rfl, rfl, Nat.le_of_ble_eq_true rfl, Nat.le_of_ble_eq_true rfl⟩ rfl hl.1 (Nat.le_of_ble_eq_true rfl) rfl dX7_digest_28 ⟨Nat.zero_le _, Nat.zero_le _⟩ (fun s9 H locs h10 G => ?_)
  have hv := hv s9 h10
  refine lv_aload_n hx hb dX7_digest_31 rfl (lv_at hl 0 rfl) ?_
  refine lv_aload_n hx hb dX7_digest_32 rfl (lv_at hl 0 rfl) ?_
  refine g_getR hx hb hts hown 5 84 inlX7 G sh_80 rfl (by decide) rfl wm_111 dX7_digest_33 ?_
  refine lv_iconst (v := iz 2) hx hb dX7_digest_36 rfl ?_
  refine g_ald hx hb G sh_84 (by decide) (by decide) (by decide) dX7_digest_37 ?_
  obtain ⟨p11, hv⟩ := hv
  refine g_callVv (rest := []) hx hb hml hts hown hNw hA G [.int (iz (s9 84 2))] (c_X7_mix l w s9 _ (s9 84 2) p11) sh_80 rfl wm_742 wm_743 wm_744 wm_5 wm_745 hd_X7_mix ⟨rfl, rfl, Nat.le_of_ble_eq_true rfl, Nat.le_of_ble_eq_true rfl⟩ rfl hl.1 (Nat.le_of_ble_eq_true rfl) rfl dX7_digest_38 ⟨Nat.zero_le _, Nat.zero_le _⟩ (fun s12 H locs h13 G => ?_)
  have hv := hv s12 h13
  refine lv_aload_n hx hb dX7_digest_41 rfl (lv_at hl 0 rfl) ?_
  refine lv_aload_n hx hb dX7_digest_42 rfl (lv_at hl 0 rfl) ?_
  refine g_getI hx hb hts hown 4 inlX7 G sh_80 rfl (by decide) rfl wm_251 dX7_digest_43 ?_
  obtain ⟨p14, hv⟩ := hv
  refine g_callVv (rest := []) hx hb hml hts hown hNw hA G [.int (iz (s12 80 4))] (c_X7_mix l w s12 _ (s12 80 4) p14) sh_80 rfl wm_742 wm_743 wm_744 wm_5 wm_745 hd_X7_mix ⟨rfl, rfl, Nat.le_of_ble_eq_true rfl, Nat.le_of_ble_eq_true rfl⟩ rfl hl.1 (Nat.le_of_ble_eq_true rfl) rfl dX7_digest_46 ⟨Nat.zero_le _, Nat.zero_le _⟩ (fun s15 H locs h16 G => ?_)
  have hv := hv s15 h16
  refine lv_aload_n hx hb dX7_digest_49 rfl (lv_at hl 0 rfl) ?_
  refine lv_aload_n hx hb dX7_digest_50 rfl (lv_at hl 0 rfl) ?_
  refine g_getI hx hb hts hown 2 inlX7 G sh_80 rfl (by decide) rfl wm_190 dX7_digest_51 ?_
  obtain ⟨p17, hv⟩ := hv
  refine g_callVv (rest := []) hx hb hml hts hown hNw hA G [.int (iz (s15 80 2))] (c_X7_mix l w s15 _ (s15 80 2) p17) sh_80 rfl wm_742 wm_743 wm_744 wm_5 wm_745 hd_X7_mix ⟨rfl, rfl, Nat.le_of_ble_eq_true rfl, Nat.le_of_ble_eq_true rfl⟩ rfl hl.1 (Nat.le_of_ble_eq_true rfl) rfl dX7_digest_54 ⟨Nat.zero_le _, Nat.zero_le _⟩ (fun s18 H locs h19 G => ?_)
  have hv := hv s18 h19
  refine lv_aload_n hx hb dX7_digest_57 rfl (lv_at hl 0 rfl) ?_
  refine lv_aload_n hx hb dX7_digest_58 rfl (lv_at hl 0 rfl) ?_
  refine g_getR hx hb hts hown 0 81 inlX7 G sh_80 rfl (by decide) rfl wm_108 dX7_digest_59 ?_
  refine lv_iconst (v := iz 0) hx hb dX7_digest_62 rfl ?_
  refine g_ald hx hb G sh_81 (by decide) (by decide) (by decide) dX7_digest_63 ?_
  obtain ⟨p20, hv⟩ := hv
  refine g_callVv (rest := []) hx hb hml hts hown hNw hA G [.int (iz (s18 81 0))] (c_X7_mix l w s18 _ (s18 81 0) p20) sh_80 rfl wm_742 wm_743 wm_744 wm_5 wm_745 hd_X7_mix ⟨rfl, rfl, Nat.le_of_ble_eq_true rfl, Nat.le_of_ble_eq_true rfl⟩ rfl hl.1 (Nat.le_of_ble_eq_true rfl) rfl dX7_digest_64 ⟨Nat.zero_le _, Nat.zero_le _⟩ (fun s21 H locs h22 G => ?_)
  have hv := hv s21 h22
  refine lv_iconst (v := iz 0) hx hb dX7_digest_67 rfl ?_
  refine lv_istore_n (lv' := [(1, .int (iz 0)), (0, .ref (gad w 80))]) hx hb dX7_digest_68 rfl hl (by decide) rfl (fun ls hl => ?_)
  obtain ⟨n_, hv⟩ := hv
  exact lw_X7_digest_69 (l := l) (p := p) (e := e) hz C0 _ n_ _ _ _ _ _ hv G (lv_sub hl [1, 0] rfl)
