abbrev rm_X6_matchEnd : Room := ({ frames := 6, cells := 0, slots := 0, locals := 144 } : Room)
theorem hd_X6_matchEnd : yX6_matchEnd.cls = RX6 ∧ yX6_matchEnd.cls ≠ "java/lang/invoke/MethodHandle" ∧ yX6_matchEnd.cls ≠ "java/lang/invoke/VarHandle" ∧ (parseMethodDescriptor yX6_matchEnd.desc).map (fun d => d.parameters.length) = some 2 := ⟨rfl, by decide +kernel, by decide +kernel, by decide +kernel⟩
set_option maxHeartbeats 4000000 in
set_option maxRecDepth 100000 in
theorem c_X6_matchEnd (l : Launch) (w : GW) (σ : St) (sz : Nat) (x1 x2 : Int) (hp : pre_X6_matchEnd x1 x2 σ) : Met l yX6_matchEnd (Cond.code yX6_matchEnd cX6_matchEnd 3 (some .int) :: wsL_law) rm_X6_matchEnd (gPc w gSL σ sz [.ref (gad w 0), .int (iz x1), .int (iz x2)]) (gQi w gSL sz (post_X6_matchEnd x1 x2 σ)) 0 0 (gA w gSL.length sz) := by
  have hv : V_X6_matchEnd x1 x2 σ (post_X6_matchEnd x1 x2 σ) := v_X6_matchEnd x1 x2 σ hp
  refine g_met (by decide) [.ref (gad w 0), .int (iz x1), .int (iz x2)] (Nat.le_of_ble_eq_true rfl) ?_
  intro p e s m below meth c ls hz C0 hl G
  obtain ⟨hx, hb, hr, hml, hown, hts, hlk, hNw, hA⟩ := id C0
  have hown : s.vm.findClass RX6 = some m.cls := hown
  have hl : lv_has ls 3 [(0, .ref (gad w 0)), (1, .int (iz x1)), (2, .int (iz x2))] := hl
  refine lv_iload_n hx hb dX6_matchEnd_0 rfl (lv_at hl 1 rfl) ?_
  obtain ⟨p1, hv⟩ := hv
  refine g_callSi (rest := []) hx hb hml hts hown hNw hA G [.int (iz x1)] (c_X6_isRule l w σ _ x1 p1) wm_264 wm_265 wm_2 wm_266 hd_X6_isRule ⟨rfl, rfl, Nat.le_of_ble_eq_true rfl, Nat.le_of_ble_eq_true rfl⟩ rfl hl.1 (Nat.le_of_ble_eq_true rfl) rfl dX6_matchEnd_1 ⟨Nat.zero_le _, Nat.zero_le _⟩ (fun r4 s2 H locs h3 G => ?_)
  obtain ⟨er4, es2⟩ := h3
  rw [es2] at G
  have hv := hv r4 er4
  obtain ⟨i5, hv⟩ := hv
  refine g_if_eq (tgt := 22) hx hb i5 dX6_matchEnd_4 (by decide) (fun c6 => ?_) (fun c6 => ?_)
  · have hv := hv.1 c6
    refine lv_aload_n hx hb dX6_matchEnd_22 rfl (lv_at hl 0 rfl) ?_
    refine lv_bipush (v := iz (-2)) hx hb dX6_matchEnd_23 (by decide +kernel) ?_
    obtain ⟨p7, hv⟩ := hv
    refine g_callVi (rest := []) hx hb hml hts hown hNw hA G [.int (iz (-2))] (c_X6_fail l w σ _ (-2) p7) sh_0 rfl wm_129 wm_130 wm_131 wm_2 wm_132 hd_X6_fail ⟨rfl, rfl, Nat.le_of_ble_eq_true rfl, Nat.le_of_ble_eq_true rfl⟩ rfl hl.1 (Nat.le_of_ble_eq_true rfl) rfl dX6_matchEnd_25 ⟨Nat.zero_le _, Nat.zero_le _⟩ (fun r10 s8 H locs h9 G => ?_)
    have hv := hv r10 h9.1 s8 h9.2
    exact g_iret hx hb hr hlk hz G hv dX6_matchEnd_28
  · have hv := hv.2 c6
    refine lv_iload_n hx hb dX6_matchEnd_7 rfl (lv_at hl 2 rfl) ?_
    obtain ⟨i11, hv⟩ := hv
    refine g_if_lt (tgt := 22) hx hb i11 dX6_matchEnd_8 (by decide) (fun c12 => ?_) (fun c12 => ?_)
    · have hv := hv.1 c12
      refine lv_aload_n hx hb dX6_matchEnd_22 rfl (lv_at hl 0 rfl) ?_
      refine lv_bipush (v := iz (-2)) hx hb dX6_matchEnd_23 (by decide +kernel) ?_
      obtain ⟨p13, hv⟩ := hv
      refine g_callVi (rest := []) hx hb hml hts hown hNw hA G [.int (iz (-2))] (c_X6_fail l w σ _ (-2) p13) sh_0 rfl wm_129 wm_130 wm_131 wm_2 wm_132 hd_X6_fail ⟨rfl, rfl, Nat.le_of_ble_eq_true rfl, Nat.le_of_ble_eq_true rfl⟩ rfl hl.1 (Nat.le_of_ble_eq_true rfl) rfl dX6_matchEnd_25 ⟨Nat.zero_le _, Nat.zero_le _⟩ (fun r16 s14 H locs h15 G => ?_)
      have hv := hv r16 h15.1 s14 h15.2
      exact g_iret hx hb hr hlk hz G hv dX6_matchEnd_28
    · have hv := hv.2 c12
      refine lv_iload_n hx hb dX6_matchEnd_11 rfl (lv_at hl 2 rfl) ?_
      refine lv_aload_n hx hb dX6_matchEnd_12 rfl (lv_at hl 0 rfl) ?_
      refine g_getR hx hb hts hown 0 1 inlX6 G sh_0 rfl (by decide) rfl wm_15 dX6_matchEnd_13 ?_
      obtain ⟨p17, hv⟩ := hv
      refine g_callVi (rest := [.int (iz x2)]) hx hb hml hts hown hNw hA G [] (c_X5_textSize l w σ _ p17) sh_1 rfl wm_122 wm_123 wm_124 wm_14 wm_125 hd_X5_textSize ⟨rfl, rfl, Nat.le_of_ble_eq_true rfl, Nat.le_of_ble_eq_true rfl⟩ rfl hl.1 (Nat.le_of_ble_eq_true rfl) rfl dX6_matchEnd_16 ⟨Nat.zero_le _, Nat.zero_le _⟩ (fun r20 s18 H locs h19 G => ?_)
      obtain ⟨er20, es18⟩ := h19
      rw [es18] at G
      have hv := hv r20 er20
      obtain ⟨i21, hv⟩ := hv
      refine g_icmp_le (tgt := 29) hx hb i11 i21 dX6_matchEnd_19 (by decide) (fun c22 => ?_) (fun c22 => ?_)
      · have hv := hv.1 c22
        refine lv_aload_n hx hb dX6_matchEnd_29 rfl (lv_at hl 0 rfl) ?_
        obtain ⟨p23, hv⟩ := hv
        refine g_callVv (rest := []) hx hb hml hts hown hNw hA G [] (c_X6_refresh l w σ _ p23) sh_0 rfl wm_335 wm_336 wm_337 wm_2 wm_338 hd_X6_refresh ⟨rfl, rfl, Nat.le_of_ble_eq_true rfl, Nat.le_of_ble_eq_true rfl⟩ rfl hl.1 (Nat.le_of_ble_eq_true rfl) rfl dX6_matchEnd_30 ⟨Nat.zero_le _, Nat.zero_le _⟩ (fun s24 H locs h25 G => ?_)
        have hv := hv s24 h25
        refine lv_aload_n hx hb dX6_matchEnd_33 rfl (lv_at hl 0 rfl) ?_
        refine g_getR hx hb hts hown 4 52 inlX6 G sh_0 rfl (by decide) rfl wm_28 dX6_matchEnd_34 ?_
        refine lv_iload_n hx hb dX6_matchEnd_37 rfl (lv_at hl 1 rfl) ?_
        refine lv_iload_n hx hb dX6_matchEnd_38 rfl (lv_at hl 2 rfl) ?_
        obtain ⟨p26, hv⟩ := hv
        refine g_callVi (rest := []) hx hb hml hts hown hNw hA G [.int (iz x1), .int (iz x2)] (c_X2_islandEnd l w s24 _ x1 x2 p26) sh_52 rfl wm_441 wm_412 wm_413 wm_27 wm_414 hd_X2_islandEnd ⟨rfl, rfl, Nat.le_of_ble_eq_true rfl, Nat.le_of_ble_eq_true rfl⟩ rfl hl.1 (Nat.le_of_ble_eq_true rfl) rfl dX6_matchEnd_39 ⟨Nat.zero_le _, Nat.zero_le _⟩ (fun r29 s27 H locs h28 G => ?_)
        obtain ⟨er29, es27⟩ := h28
        rw [es27] at G
        have hv := hv r29 er29
        exact g_iret hx hb hr hlk hz G hv dX6_matchEnd_42
      · have hv := hv.2 c22
        refine lv_aload_n hx hb dX6_matchEnd_22 rfl (lv_at hl 0 rfl) ?_
        refine lv_bipush (v := iz (-2)) hx hb dX6_matchEnd_23 (by decide +kernel) ?_
        obtain ⟨p30, hv⟩ := hv
        refine g_callVi (rest := []) hx hb hml hts hown hNw hA G [.int (iz (-2))] (c_X6_fail l w σ _ (-2) p30) sh_0 rfl wm_129 wm_130 wm_131 wm_2 wm_132 hd_X6_fail ⟨rfl, rfl, Nat.le_of_ble_eq_true rfl, Nat.le_of_ble_eq_true rfl⟩ rfl hl.1 (Nat.le_of_ble_eq_true rfl) rfl dX6_matchEnd_25 ⟨Nat.zero_le _, Nat.zero_le _⟩ (fun r33 s31 H locs h32 G => ?_)
        have hv := hv r33 h32.1 s31 h32.2
        exact g_iret hx hb hr hlk hz G hv dX6_matchEnd_28
abbrev rm_X3_total : Room := ({ frames := 0, cells := 0, slots := 0, locals := 0 } : Room)
theorem hd_X3_total : yX3_total.cls = RX3 ∧ yX3_total.cls ≠ "java/lang/invoke/MethodHandle" ∧ yX3_total.cls ≠ "java/lang/invoke/VarHandle" ∧ (parseMethodDescriptor yX3_total.desc).map (fun d => d.parameters.length) = some 0 := ⟨rfl, by decide +kernel, by decide +kernel, by decide +kernel⟩
set_option maxHeartbeats 4000000 in
set_option maxRecDepth 100000 in
theorem c_X3_total (l : Launch) (w : GW) (σ : St) (sz : Nat) (hp : pre_X3_total σ) : Met l yX3_total (Cond.code yX3_total cX3_total 1 (some .int) :: wsL_law) rm_X3_total (gPc w gSL σ sz [.ref (gad w 61)]) (gQi w gSL sz (post_X3_total σ)) 0 0 (gA w gSL.length sz) := by
  have hv : V_X3_total σ (post_X3_total σ) := v_X3_total σ hp
  refine g_met (by decide) [.ref (gad w 61)] (Nat.le_of_ble_eq_true rfl) ?_
  intro p e s m below meth c ls hz C0 hl G
  obtain ⟨hx, hb, hr, hml, hown, hts, hlk, hNw, hA⟩ := id C0
  have hown : s.vm.findClass RX3 = some m.cls := hown
  have hl : lv_has ls 1 [(0, .ref (gad w 61))] := hl
  refine lv_aload_n hx hb dX3_total_0 rfl (lv_at hl 0 rfl) ?_
  refine g_getI hx hb hts hown 11 inlX3 G sh_61 rfl (by decide) rfl wm_96 dX3_total_1 ?_
  exact g_iret hx hb hr hlk hz G hv dX3_total_4
abbrev rm_X6_nodeCount : Room := ({ frames := 6, cells := 0, slots := 0, locals := 144 } : Room)
theorem hd_X6_nodeCount : yX6_nodeCount.cls = RX6 ∧ yX6_nodeCount.cls ≠ "java/lang/invoke/MethodHandle" ∧ yX6_nodeCount.cls ≠ "java/lang/invoke/VarHandle" ∧ (parseMethodDescriptor yX6_nodeCount.desc).map (fun d => d.parameters.length) = some 0 := ⟨rfl, by decide +kernel, by decide +kernel, by decide +kernel⟩
set_option maxHeartbeats 4000000 in
set_option maxRecDepth 100000 in
theorem c_X6_nodeCount (l : Launch) (w : GW) (σ : St) (sz : Nat) (hp : pre_X6_nodeCount σ) : Met l yX6_nodeCount (Cond.code yX6_nodeCount cX6_nodeCount 1 (some .int) :: wsL_law) rm_X6_nodeCount (gPc w gSL σ sz [.ref (gad w 0)]) (gQi w gSL sz (post_X6_nodeCount σ)) 0 0 (gA w gSL.length sz) := by
  have hv : V_X6_nodeCount σ (post_X6_nodeCount σ) := v_X6_nodeCount σ hp
  refine g_met (by decide) [.ref (gad w 0)] (Nat.le_of_ble_eq_true rfl) ?_
  intro p e s m below meth c ls hz C0 hl G
  obtain ⟨hx, hb, hr, hml, hown, hts, hlk, hNw, hA⟩ := id C0
  have hown : s.vm.findClass RX6 = some m.cls := hown
  have hl : lv_has ls 1 [(0, .ref (gad w 0))] := hl
  refine lv_aload_n hx hb dX6_nodeCount_0 rfl (lv_at hl 0 rfl) ?_
  obtain ⟨p1, hv⟩ := hv
  refine g_callVv (rest := []) hx hb hml hts hown hNw hA G [] (c_X6_refresh l w σ _ p1) sh_0 rfl wm_335 wm_336 wm_337 wm_2 wm_338 hd_X6_refresh ⟨rfl, rfl, Nat.le_of_ble_eq_true rfl, Nat.le_of_ble_eq_true rfl⟩ rfl hl.1 (Nat.le_of_ble_eq_true rfl) rfl dX6_nodeCount_1 ⟨Nat.zero_le _, Nat.zero_le _⟩ (fun s2 H locs h3 G => ?_)
  have hv := hv s2 h3
  refine lv_aload_n hx hb dX6_nodeCount_4 rfl (lv_at hl 0 rfl) ?_
  refine g_getR hx hb hts hown 5 61 inlX6 G sh_0 rfl (by decide) rfl wm_32 dX6_nodeCount_5 ?_
  obtain ⟨p4, hv⟩ := hv
  refine g_callVi (rest := []) hx hb hml hts hown hNw hA G [] (c_X3_total l w s2 _ p4) sh_61 rfl wm_481 wm_482 wm_483 wm_31 wm_484 hd_X3_total ⟨rfl, rfl, Nat.le_of_ble_eq_true rfl, Nat.le_of_ble_eq_true rfl⟩ rfl hl.1 (Nat.le_of_ble_eq_true rfl) rfl dX6_nodeCount_8 ⟨Nat.zero_le _, Nat.zero_le _⟩ (fun r7 s5 H locs h6 G => ?_)
  obtain ⟨er7, es5⟩ := h6
  rw [es5] at G
  have hv := hv r7 er7
  exact g_iret hx hb hr hlk hz G hv dX6_nodeCount_11
abbrev rm_X3_topLevelTotal : Room := ({ frames := 0, cells := 0, slots := 0, locals := 0 } : Room)
theorem hd_X3_topLevelTotal : yX3_topLevelTotal.cls = RX3 ∧ yX3_topLevelTotal.cls ≠ "java/lang/invoke/MethodHandle" ∧ yX3_topLevelTotal.cls ≠ "java/lang/invoke/VarHandle" ∧ (parseMethodDescriptor yX3_topLevelTotal.desc).map (fun d => d.parameters.length) = some 0 := ⟨rfl, by decide +kernel, by decide +kernel, by decide +kernel⟩
set_option maxHeartbeats 4000000 in
set_option maxRecDepth 100000 in
theorem c_X3_topLevelTotal (l : Launch) (w : GW) (σ : St) (sz : Nat) (hp : pre_X3_topLevelTotal σ) : Met l yX3_topLevelTotal (Cond.code yX3_topLevelTotal cX3_topLevelTotal 1 (some .int) :: wsL_law) rm_X3_topLevelTotal (gPc w gSL σ sz [.ref (gad w 61)]) (gQi w gSL sz (post_X3_topLevelTotal σ)) 0 0 (gA w gSL.length sz) := by
  have hv : V_X3_topLevelTotal σ (post_X3_topLevelTotal σ) := v_X3_topLevelTotal σ hp
  refine g_met (by decide) [.ref (gad w 61)] (Nat.le_of_ble_eq_true rfl) ?_
  intro p e s m below meth c ls hz C0 hl G
  obtain ⟨hx, hb, hr, hml, hown, hts, hlk, hNw, hA⟩ := id C0
  have hown : s.vm.findClass RX3 = some m.cls := hown
  have hl : lv_has ls 1 [(0, .ref (gad w 61))] := hl
  refine lv_aload_n hx hb dX3_topLevelTotal_0 rfl (lv_at hl 0 rfl) ?_
  refine g_getI hx hb hts hown 12 inlX3 G sh_61 rfl (by decide) rfl wm_97 dX3_topLevelTotal_1 ?_
  exact g_iret hx hb hr hlk hz G hv dX3_topLevelTotal_4
abbrev rm_X6_islandCount : Room := ({ frames := 6, cells := 0, slots := 0, locals := 144 } : Room)
theorem hd_X6_islandCount : yX6_islandCount.cls = RX6 ∧ yX6_islandCount.cls ≠ "java/lang/invoke/MethodHandle" ∧ yX6_islandCount.cls ≠ "java/lang/invoke/VarHandle" ∧ (parseMethodDescriptor yX6_islandCount.desc).map (fun d => d.parameters.length) = some 0 := ⟨rfl, by decide +kernel, by decide +kernel, by decide +kernel⟩
set_option maxHeartbeats 4000000 in
set_option maxRecDepth 100000 in
theorem c_X6_islandCount (l : Launch) (w : GW) (σ : St) (sz : Nat) (hp : pre_X6_islandCount σ) : Met l yX6_islandCount (Cond.code yX6_islandCount cX6_islandCount 1 (some .int) :: wsL_law) rm_X6_islandCount (gPc w gSL σ sz [.ref (gad w 0)]) (gQi w gSL sz (post_X6_islandCount σ)) 0 0 (gA w gSL.length sz) := by
  have hv : V_X6_islandCount σ (post_X6_islandCount σ) := v_X6_islandCount σ hp
  refine g_met (by decide) [.ref (gad w 0)] (Nat.le_of_ble_eq_true rfl) ?_
  intro p e s m below meth c ls hz C0 hl G
  obtain ⟨hx, hb, hr, hml, hown, hts, hlk, hNw, hA⟩ := id C0
  have hown : s.vm.findClass RX6 = some m.cls := hown
  have hl : lv_has ls 1 [(0, .ref (gad w 0))] := hl
  refine lv_aload_n hx hb dX6_islandCount_0 rfl (lv_at hl 0 rfl) ?_
  obtain ⟨p1, hv⟩ := hv
  refine g_callVv (rest := []) hx hb hml hts hown hNw hA G [] (c_X6_refresh l w σ _ p1) sh_0 rfl wm_335 wm_336 wm_337 wm_2 wm_338 hd_X6_refresh ⟨rfl, rfl, Nat.le_of_ble_eq_true rfl, Nat.le_of_ble_eq_true rfl⟩ rfl hl.1 (Nat.le_of_ble_eq_true rfl) rfl dX6_islandCount_1 ⟨Nat.zero_le _, Nat.zero_le _⟩ (fun s2 H locs h3 G => ?_)
  have hv := hv s2 h3
  refine lv_aload_n hx hb dX6_islandCount_4 rfl (lv_at hl 0 rfl) ?_
  refine g_getR hx hb hts hown 5 61 inlX6 G sh_0 rfl (by decide) rfl wm_32 dX6_islandCount_5 ?_
  obtain ⟨p4, hv⟩ := hv
  refine g_callVi (rest := []) hx hb hml hts hown hNw hA G [] (c_X3_topLevelTotal l w s2 _ p4) sh_61 rfl wm_518 wm_519 wm_520 wm_31 wm_521 hd_X3_topLevelTotal ⟨rfl, rfl, Nat.le_of_ble_eq_true rfl, Nat.le_of_ble_eq_true rfl⟩ rfl hl.1 (Nat.le_of_ble_eq_true rfl) rfl dX6_islandCount_8 ⟨Nat.zero_le _, Nat.zero_le _⟩ (fun r7 s5 H locs h6 G => ?_)
  obtain ⟨er7, es5⟩ := h6
  rw [es5] at G
  have hv := hv r7 er7
  exact g_iret hx hb hr hlk hz G hv dX6_islandCount_11
abbrev rm_X3_has : Room := ({ frames := 0, cells := 0, slots := 0, locals := 0 } : Room)
theorem hd_X3_has : yX3_has.cls = RX3 ∧ yX3_has.cls ≠ "java/lang/invoke/MethodHandle" ∧ yX3_has.cls ≠ "java/lang/invoke/VarHandle" ∧ (parseMethodDescriptor yX3_has.desc).map (fun d => d.parameters.length) = some 1 := ⟨rfl, by decide +kernel, by decide +kernel, by decide +kernel⟩
set_option maxHeartbeats 4000000 in
set_option maxRecDepth 100000 in
theorem c_X3_has (l : Launch) (w : GW) (σ : St) (sz : Nat) (x1 : Int) (hp : pre_X3_has x1 σ) : Met l yX3_has (Cond.code yX3_has cX3_has 2 (some .boolean) :: wsL_law) rm_X3_has (gPc w gSL σ sz [.ref (gad w 61), .int (iz x1)]) (gQi w gSL sz (post_X3_has x1 σ)) 0 0 (gA w gSL.length sz) := by
  have hv : V_X3_has x1 σ (post_X3_has x1 σ) := v_X3_has x1 σ hp
  refine g_met (by decide) [.ref (gad w 61), .int (iz x1)] (Nat.le_of_ble_eq_true rfl) ?_
  intro p e s m below meth c ls hz C0 hl G
  obtain ⟨hx, hb, hr, hml, hown, hts, hlk, hNw, hA⟩ := id C0
  have hown : s.vm.findClass RX3 = some m.cls := hown
  have hl : lv_has ls 2 [(0, .ref (gad w 61)), (1, .int (iz x1))] := hl
  refine lv_iload_n hx hb dX3_has_0 rfl (lv_at hl 1 rfl) ?_
  obtain ⟨i1, hv⟩ := hv
  refine g_if_lt (tgt := 16) hx hb i1 dX3_has_1 (by decide) (fun c2 => ?_) (fun c2 => ?_)
  · have hv := hv.1 c2
    refine lv_iconst (v := iz 0) hx hb dX3_has_16 rfl ?_
    exact g_zret hx hb hr hlk hz G (Or.inl rfl) hv dX3_has_17
  · have hv := hv.2 c2
    refine lv_iload_n hx hb dX3_has_4 rfl (lv_at hl 1 rfl) ?_
    refine lv_aload_n hx hb dX3_has_5 rfl (lv_at hl 0 rfl) ?_
    refine g_getI hx hb hts hown 11 inlX3 G sh_61 rfl (by decide) rfl wm_96 dX3_has_6 ?_
    obtain ⟨i3, hv⟩ := hv
    refine g_icmp_ge (tgt := 16) hx hb i1 i3 dX3_has_9 (by decide) (fun c4 => ?_) (fun c4 => ?_)
    · have hv := hv.1 c4
      refine lv_iconst (v := iz 0) hx hb dX3_has_16 rfl ?_
      exact g_zret hx hb hr hlk hz G (Or.inl rfl) hv dX3_has_17
    · have hv := hv.2 c4
      refine lv_iconst (v := iz 1) hx hb dX3_has_12 rfl ?_
      refine lv_goto (tgt := 17) hx hb dX3_has_13 (by decide) ?_
      exact g_zret hx hb hr hlk hz G (Or.inr rfl) hv dX3_has_17
abbrev rm_X3_ruleOf : Room := ({ frames := 1, cells := 0, slots := 0, locals := 21 } : Room)
theorem hd_X3_ruleOf : yX3_ruleOf.cls = RX3 ∧ yX3_ruleOf.cls ≠ "java/lang/invoke/MethodHandle" ∧ yX3_ruleOf.cls ≠ "java/lang/invoke/VarHandle" ∧ (parseMethodDescriptor yX3_ruleOf.desc).map (fun d => d.parameters.length) = some 1 := ⟨rfl, by decide +kernel, by decide +kernel, by decide +kernel⟩
set_option maxHeartbeats 4000000 in
set_option maxRecDepth 100000 in
theorem c_X3_ruleOf (l : Launch) (w : GW) (σ : St) (sz : Nat) (x1 : Int) (hp : pre_X3_ruleOf x1 σ) : Met l yX3_ruleOf (Cond.code yX3_ruleOf cX3_ruleOf 2 (some .int) :: wsL_law) rm_X3_ruleOf (gPc w gSL σ sz [.ref (gad w 61), .int (iz x1)]) (gQi w gSL sz (post_X3_ruleOf x1 σ)) 0 0 (gA w gSL.length sz) := by
  have hv : V_X3_ruleOf x1 σ (post_X3_ruleOf x1 σ) := v_X3_ruleOf x1 σ hp
  refine g_met (by decide) [.ref (gad w 61), .int (iz x1)] (Nat.le_of_ble_eq_true rfl) ?_
  intro p e s m below meth c ls hz C0 hl G
  obtain ⟨hx, hb, hr, hml, hown, hts, hlk, hNw, hA⟩ := id C0
  have hown : s.vm.findClass RX3 = some m.cls := hown
  have hl : lv_has ls 2 [(0, .ref (gad w 61)), (1, .int (iz x1))] := hl
  refine lv_aload_n hx hb dX3_ruleOf_0 rfl (lv_at hl 0 rfl) ?_
  refine g_getR hx hb hts hown 2 62 inlX3 G sh_61 rfl (by decide) rfl wm_87 dX3_ruleOf_1 ?_
  refine lv_iload_n hx hb dX3_ruleOf_4 rfl (lv_at hl 1 rfl) ?_
  obtain ⟨p1, hv⟩ := hv
  refine g_callVi (rest := []) hx hb hml hts hown hNw hA G [.int (iz x1)] (c_X4_get l w σ _ 62 100 ⟨sh_62, sh_63⟩ x1 p1) sh_62 rfl wm_415 wm_134 wm_135 wm_22 wm_136 hd_X4_get ⟨rfl, rfl, Nat.le_of_ble_eq_true rfl, Nat.le_of_ble_eq_true rfl⟩ rfl hl.1 (Nat.le_of_ble_eq_true rfl) rfl dX3_ruleOf_5 ⟨Nat.zero_le _, Nat.zero_le _⟩ (fun r4 s2 H locs h3 G => ?_)
  obtain ⟨er4, es2⟩ := h3
  rw [es2] at G
  have hv := hv r4 er4
  exact g_iret hx hb hr hlk hz G hv dX3_ruleOf_8
abbrev rm_X6_nodeRule : Room := ({ frames := 6, cells := 0, slots := 0, locals := 144 } : Room)
theorem hd_X6_nodeRule : yX6_nodeRule.cls = RX6 ∧ yX6_nodeRule.cls ≠ "java/lang/invoke/MethodHandle" ∧ yX6_nodeRule.cls ≠ "java/lang/invoke/VarHandle" ∧ (parseMethodDescriptor yX6_nodeRule.desc).map (fun d => d.parameters.length) = some 1 := ⟨rfl, by decide +kernel, by decide +kernel, by decide +kernel⟩
set_option maxHeartbeats 4000000 in
set_option maxRecDepth 100000 in
theorem c_X6_nodeRule (l : Launch) (w : GW) (σ : St) (sz : Nat) (x1 : Int) (hp : pre_X6_nodeRule x1 σ) : Met l yX6_nodeRule (Cond.code yX6_nodeRule cX6_nodeRule 2 (some .int) :: wsL_law) rm_X6_nodeRule (gPc w gSL σ sz [.ref (gad w 0), .int (iz x1)]) (gQi w gSL sz (post_X6_nodeRule x1 σ)) 0 0 (gA w gSL.length sz) := by
  have hv : V_X6_nodeRule x1 σ (post_X6_nodeRule x1 σ) := v_X6_nodeRule x1 σ hp
  refine g_met (by decide) [.ref (gad w 0), .int (iz x1)] (Nat.le_of_ble_eq_true rfl) ?_
  intro p e s m below meth c ls hz C0 hl G
  obtain ⟨hx, hb, hr, hml, hown, hts, hlk, hNw, hA⟩ := id C0
  have hown : s.vm.findClass RX6 = some m.cls := hown
  have hl : lv_has ls 2 [(0, .ref (gad w 0)), (1, .int (iz x1))] := hl
  refine lv_aload_n hx hb dX6_nodeRule_0 rfl (lv_at hl 0 rfl) ?_
  obtain ⟨p1, hv⟩ := hv
  refine g_callVv (rest := []) hx hb hml hts hown hNw hA G [] (c_X6_refresh l w σ _ p1) sh_0 rfl wm_335 wm_336 wm_337 wm_2 wm_338 hd_X6_refresh ⟨rfl, rfl, Nat.le_of_ble_eq_true rfl, Nat.le_of_ble_eq_true rfl⟩ rfl hl.1 (Nat.le_of_ble_eq_true rfl) rfl dX6_nodeRule_1 ⟨Nat.zero_le _, Nat.zero_le _⟩ (fun s2 H locs h3 G => ?_)
  have hv := hv s2 h3
  refine lv_aload_n hx hb dX6_nodeRule_4 rfl (lv_at hl 0 rfl) ?_
  refine g_getR hx hb hts hown 5 61 inlX6 G sh_0 rfl (by decide) rfl wm_32 dX6_nodeRule_5 ?_
  refine lv_iload_n hx hb dX6_nodeRule_8 rfl (lv_at hl 1 rfl) ?_
  obtain ⟨p4, hv⟩ := hv
  refine g_callVi (rest := []) hx hb hml hts hown hNw hA G [.int (iz x1)] (c_X3_has l w s2 _ x1 p4) sh_61 rfl wm_530 wm_531 wm_532 wm_31 wm_533 hd_X3_has ⟨rfl, rfl, Nat.le_of_ble_eq_true rfl, Nat.le_of_ble_eq_true rfl⟩ rfl hl.1 (Nat.le_of_ble_eq_true rfl) rfl dX6_nodeRule_9 ⟨Nat.zero_le _, Nat.zero_le _⟩ (fun r7 s5 H locs h6 G => ?_)
  obtain ⟨er7, es5⟩ := h6
  rw [es5] at G
  have hv := hv r7 er7
  obtain ⟨i8, hv⟩ := hv
  refine g_if_eq (tgt := 26) hx hb i8 dX6_nodeRule_12 (by decide) (fun c9 => ?_) (fun c9 => ?_)
  · have hv := hv.1 c9
    refine lv_aload_n hx hb dX6_nodeRule_26 rfl (lv_at hl 0 rfl) ?_
    refine lv_bipush (v := iz (-2)) hx hb dX6_nodeRule_27 (by decide +kernel) ?_
    obtain ⟨p10, hv⟩ := hv
    refine g_callVi (rest := []) hx hb hml hts hown hNw hA G [.int (iz (-2))] (c_X6_fail l w s2 _ (-2) p10) sh_0 rfl wm_129 wm_130 wm_131 wm_2 wm_132 hd_X6_fail ⟨rfl, rfl, Nat.le_of_ble_eq_true rfl, Nat.le_of_ble_eq_true rfl⟩ rfl hl.1 (Nat.le_of_ble_eq_true rfl) rfl dX6_nodeRule_29 ⟨Nat.zero_le _, Nat.zero_le _⟩ (fun r13 s11 H locs h12 G => ?_)
    have hv := hv r13 h12.1 s11 h12.2
    exact g_iret hx hb hr hlk hz G hv dX6_nodeRule_32
  · have hv := hv.2 c9
    refine lv_aload_n hx hb dX6_nodeRule_15 rfl (lv_at hl 0 rfl) ?_
    refine g_getR hx hb hts hown 5 61 inlX6 G sh_0 rfl (by decide) rfl wm_32 dX6_nodeRule_16 ?_
    refine lv_iload_n hx hb dX6_nodeRule_19 rfl (lv_at hl 1 rfl) ?_
    obtain ⟨p14, hv⟩ := hv
    refine g_callVi (rest := []) hx hb hml hts hown hNw hA G [.int (iz x1)] (c_X3_ruleOf l w s2 _ x1 p14) sh_61 rfl wm_534 wm_535 wm_536 wm_31 wm_537 hd_X3_ruleOf ⟨rfl, rfl, Nat.le_of_ble_eq_true rfl, Nat.le_of_ble_eq_true rfl⟩ rfl hl.1 (Nat.le_of_ble_eq_true rfl) rfl dX6_nodeRule_20 ⟨Nat.zero_le _, Nat.zero_le _⟩ (fun r17 s15 H locs h16 G => ?_)
    obtain ⟨er17, es15⟩ := h16
    rw [es15] at G
    have hv := hv r17 er17
    refine lv_goto (tgt := 32) hx hb dX6_nodeRule_23 (by decide) ?_
    exact g_iret hx hb hr hlk hz G hv dX6_nodeRule_32
abbrev rm_X3_startOf : Room := ({ frames := 1, cells := 0, slots := 0, locals := 21 } : Room)
theorem hd_X3_startOf : yX3_startOf.cls = RX3 ∧ yX3_startOf.cls ≠ "java/lang/invoke/MethodHandle" ∧ yX3_startOf.cls ≠ "java/lang/invoke/VarHandle" ∧ (parseMethodDescriptor yX3_startOf.desc).map (fun d => d.parameters.length) = some 1 := ⟨rfl, by decide +kernel, by decide +kernel, by decide +kernel⟩
set_option maxHeartbeats 4000000 in
set_option maxRecDepth 100000 in
theorem c_X3_startOf (l : Launch) (w : GW) (σ : St) (sz : Nat) (x1 : Int) (hp : pre_X3_startOf x1 σ) : Met l yX3_startOf (Cond.code yX3_startOf cX3_startOf 2 (some .int) :: wsL_law) rm_X3_startOf (gPc w gSL σ sz [.ref (gad w 61), .int (iz x1)]) (gQi w gSL sz (post_X3_startOf x1 σ)) 0 0 (gA w gSL.length sz) := by
  have hv : V_X3_startOf x1 σ (post_X3_startOf x1 σ) := v_X3_startOf x1 σ hp
  refine g_met (by decide) [.ref (gad w 61), .int (iz x1)] (Nat.le_of_ble_eq_true rfl) ?_
  intro p e s m below meth c ls hz C0 hl G
  obtain ⟨hx, hb, hr, hml, hown, hts, hlk, hNw, hA⟩ := id C0
  have hown : s.vm.findClass RX3 = some m.cls := hown
  have hl : lv_has ls 2 [(0, .ref (gad w 61)), (1, .int (iz x1))] := hl
  refine lv_aload_n hx hb dX3_startOf_0 rfl (lv_at hl 0 rfl) ?_
  refine g_getR hx hb hts hown 3 64 inlX3 G sh_61 rfl (by decide) rfl wm_88 dX3_startOf_1 ?_
  refine lv_iload_n hx hb dX3_startOf_4 rfl (lv_at hl 1 rfl) ?_
  obtain ⟨p1, hv⟩ := hv
  refine g_callVi (rest := []) hx hb hml hts hown hNw hA G [.int (iz x1)] (c_X4_get l w σ _ 64 100 ⟨sh_64, sh_65⟩ x1 p1) sh_64 rfl wm_415 wm_134 wm_135 wm_22 wm_136 hd_X4_get ⟨rfl, rfl, Nat.le_of_ble_eq_true rfl, Nat.le_of_ble_eq_true rfl⟩ rfl hl.1 (Nat.le_of_ble_eq_true rfl) rfl dX3_startOf_5 ⟨Nat.zero_le _, Nat.zero_le _⟩ (fun r4 s2 H locs h3 G => ?_)
  obtain ⟨er4, es2⟩ := h3
  rw [es2] at G
  have hv := hv r4 er4
  exact g_iret hx hb hr hlk hz G hv dX3_startOf_8
abbrev rm_X6_nodeStart : Room := ({ frames := 6, cells := 0, slots := 0, locals := 144 } : Room)
theorem hd_X6_nodeStart : yX6_nodeStart.cls = RX6 ∧ yX6_nodeStart.cls ≠ "java/lang/invoke/MethodHandle" ∧ yX6_nodeStart.cls ≠ "java/lang/invoke/VarHandle" ∧ (parseMethodDescriptor yX6_nodeStart.desc).map (fun d => d.parameters.length) = some 1 := ⟨rfl, by decide +kernel, by decide +kernel, by decide +kernel⟩
set_option maxHeartbeats 4000000 in
set_option maxRecDepth 100000 in
theorem c_X6_nodeStart (l : Launch) (w : GW) (σ : St) (sz : Nat) (x1 : Int) (hp : pre_X6_nodeStart x1 σ) : Met l yX6_nodeStart (Cond.code yX6_nodeStart cX6_nodeStart 2 (some .int) :: wsL_law) rm_X6_nodeStart (gPc w gSL σ sz [.ref (gad w 0), .int (iz x1)]) (gQi w gSL sz (post_X6_nodeStart x1 σ)) 0 0 (gA w gSL.length sz) := by
  have hv : V_X6_nodeStart x1 σ (post_X6_nodeStart x1 σ) := v_X6_nodeStart x1 σ hp
  refine g_met (by decide) [.ref (gad w 0), .int (iz x1)] (Nat.le_of_ble_eq_true rfl) ?_
  intro p e s m below meth c ls hz C0 hl G
  obtain ⟨hx, hb, hr, hml, hown, hts, hlk, hNw, hA⟩ := id C0
  have hown : s.vm.findClass RX6 = some m.cls := hown
  have hl : lv_has ls 2 [(0, .ref (gad w 0)), (1, .int (iz x1))] := hl
  refine lv_aload_n hx hb dX6_nodeStart_0 rfl (lv_at hl 0 rfl) ?_
  obtain ⟨p1, hv⟩ := hv
  refine g_callVv (rest := []) hx hb hml hts hown hNw hA G [] (c_X6_refresh l w σ _ p1) sh_0 rfl wm_335 wm_336 wm_337 wm_2 wm_338 hd_X6_refresh ⟨rfl, rfl, Nat.le_of_ble_eq_true rfl, Nat.le_of_ble_eq_true rfl⟩ rfl hl.1 (Nat.le_of_ble_eq_true rfl) rfl dX6_nodeStart_1 ⟨Nat.zero_le _, Nat.zero_le _⟩ (fun s2 H locs h3 G => ?_)
  have hv := hv s2 h3
  refine lv_aload_n hx hb dX6_nodeStart_4 rfl (lv_at hl 0 rfl) ?_
  refine g_getR hx hb hts hown 5 61 inlX6 G sh_0 rfl (by decide) rfl wm_32 dX6_nodeStart_5 ?_
  refine lv_iload_n hx hb dX6_nodeStart_8 rfl (lv_at hl 1 rfl) ?_
  obtain ⟨p4, hv⟩ := hv
  refine g_callVi (rest := []) hx hb hml hts hown hNw hA G [.int (iz x1)] (c_X3_has l w s2 _ x1 p4) sh_61 rfl wm_530 wm_531 wm_532 wm_31 wm_533 hd_X3_has ⟨rfl, rfl, Nat.le_of_ble_eq_true rfl, Nat.le_of_ble_eq_true rfl⟩ rfl hl.1 (Nat.le_of_ble_eq_true rfl) rfl dX6_nodeStart_9 ⟨Nat.zero_le _, Nat.zero_le _⟩ (fun r7 s5 H locs h6 G => ?_)
  obtain ⟨er7, es5⟩ := h6
  rw [es5] at G
  have hv := hv r7 er7
  obtain ⟨i8, hv⟩ := hv
  refine g_if_eq (tgt := 26) hx hb i8 dX6_nodeStart_12 (by decide) (fun c9 => ?_) (fun c9 => ?_)
  · have hv := hv.1 c9
    refine lv_aload_n hx hb dX6_nodeStart_26 rfl (lv_at hl 0 rfl) ?_
    refine lv_bipush (v := iz (-2)) hx hb dX6_nodeStart_27 (by decide +kernel) ?_
    obtain ⟨p10, hv⟩ := hv
    refine g_callVi (rest := []) hx hb hml hts hown hNw hA G [.int (iz (-2))] (c_X6_fail l w s2 _ (-2) p10) sh_0 rfl wm_129 wm_130 wm_131 wm_2 wm_132 hd_X6_fail ⟨rfl, rfl, Nat.le_of_ble_eq_true rfl, Nat.le_of_ble_eq_true rfl⟩ rfl hl.1 (Nat.le_of_ble_eq_true rfl) rfl dX6_nodeStart_29 ⟨Nat.zero_le _, Nat.zero_le _⟩ (fun r13 s11 H locs h12 G => ?_)
    have hv := hv r13 h12.1 s11 h12.2
    exact g_iret hx hb hr hlk hz G hv dX6_nodeStart_32
  · have hv := hv.2 c9
    refine lv_aload_n hx hb dX6_nodeStart_15 rfl (lv_at hl 0 rfl) ?_
    refine g_getR hx hb hts hown 5 61 inlX6 G sh_0 rfl (by decide) rfl wm_32 dX6_nodeStart_16 ?_
    refine lv_iload_n hx hb dX6_nodeStart_19 rfl (lv_at hl 1 rfl) ?_
    obtain ⟨p14, hv⟩ := hv
    refine g_callVi (rest := []) hx hb hml hts hown hNw hA G [.int (iz x1)] (c_X3_startOf l w s2 _ x1 p14) sh_61 rfl wm_570 wm_571 wm_572 wm_31 wm_573 hd_X3_startOf ⟨rfl, rfl, Nat.le_of_ble_eq_true rfl, Nat.le_of_ble_eq_true rfl⟩ rfl hl.1 (Nat.le_of_ble_eq_true rfl) rfl dX6_nodeStart_20 ⟨Nat.zero_le _, Nat.zero_le _⟩ (fun r17 s15 H locs h16 G => ?_)
    obtain ⟨er17, es15⟩ := h16
    rw [es15] at G
    have hv := hv r17 er17
    refine lv_goto (tgt := 32) hx hb dX6_nodeStart_23 (by decide) ?_
    exact g_iret hx hb hr hlk hz G hv dX6_nodeStart_32
abbrev rm_X3_endOf : Room := ({ frames := 1, cells := 0, slots := 0, locals := 21 } : Room)
theorem hd_X3_endOf : yX3_endOf.cls = RX3 ∧ yX3_endOf.cls ≠ "java/lang/invoke/MethodHandle" ∧ yX3_endOf.cls ≠ "java/lang/invoke/VarHandle" ∧ (parseMethodDescriptor yX3_endOf.desc).map (fun d => d.parameters.length) = some 1 := ⟨rfl, by decide +kernel, by decide +kernel, by decide +kernel⟩
set_option maxHeartbeats 4000000 in
set_option maxRecDepth 100000 in
theorem c_X3_endOf (l : Launch) (w : GW) (σ : St) (sz : Nat) (x1 : Int) (hp : pre_X3_endOf x1 σ) : Met l yX3_endOf (Cond.code yX3_endOf cX3_endOf 2 (some .int) :: wsL_law) rm_X3_endOf (gPc w gSL σ sz [.ref (gad w 61), .int (iz x1)]) (gQi w gSL sz (post_X3_endOf x1 σ)) 0 0 (gA w gSL.length sz) := by
  have hv : V_X3_endOf x1 σ (post_X3_endOf x1 σ) := v_X3_endOf x1 σ hp
  refine g_met (by decide) [.ref (gad w 61), .int (iz x1)] (Nat.le_of_ble_eq_true rfl) ?_
  intro p e s m below meth c ls hz C0 hl G
  obtain ⟨hx, hb, hr, hml, hown, hts, hlk, hNw, hA⟩ := id C0
  have hown : s.vm.findClass RX3 = some m.cls := hown
  have hl : lv_has ls 2 [(0, .ref (gad w 61)), (1, .int (iz x1))] := hl
  refine lv_aload_n hx hb dX3_endOf_0 rfl (lv_at hl 0 rfl) ?_
  refine g_getR hx hb hts hown 4 66 inlX3 G sh_61 rfl (by decide) rfl wm_89 dX3_endOf_1 ?_
  refine lv_iload_n hx hb dX3_endOf_4 rfl (lv_at hl 1 rfl) ?_
  obtain ⟨p1, hv⟩ := hv
  refine g_callVi (rest := []) hx hb hml hts hown hNw hA G [.int (iz x1)] (c_X4_get l w σ _ 66 100 ⟨sh_66, sh_67⟩ x1 p1) sh_66 rfl wm_415 wm_134 wm_135 wm_22 wm_136 hd_X4_get ⟨rfl, rfl, Nat.le_of_ble_eq_true rfl, Nat.le_of_ble_eq_true rfl⟩ rfl hl.1 (Nat.le_of_ble_eq_true rfl) rfl dX3_endOf_5 ⟨Nat.zero_le _, Nat.zero_le _⟩ (fun r4 s2 H locs h3 G => ?_)
  obtain ⟨er4, es2⟩ := h3
  rw [es2] at G
  have hv := hv r4 er4
  exact g_iret hx hb hr hlk hz G hv dX3_endOf_8
abbrev rm_X6_nodeEnd : Room := ({ frames := 6, cells := 0, slots := 0, locals := 144 } : Room)
theorem hd_X6_nodeEnd : yX6_nodeEnd.cls = RX6 ∧ yX6_nodeEnd.cls ≠ "java/lang/invoke/MethodHandle" ∧ yX6_nodeEnd.cls ≠ "java/lang/invoke/VarHandle" ∧ (parseMethodDescriptor yX6_nodeEnd.desc).map (fun d => d.parameters.length) = some 1 := ⟨rfl, by decide +kernel, by decide +kernel, by decide +kernel⟩
set_option maxHeartbeats 4000000 in
set_option maxRecDepth 100000 in
theorem c_X6_nodeEnd (l : Launch) (w : GW) (σ : St) (sz : Nat) (x1 : Int) (hp : pre_X6_nodeEnd x1 σ) : Met l yX6_nodeEnd (Cond.code yX6_nodeEnd cX6_nodeEnd 2 (some .int) :: wsL_law) rm_X6_nodeEnd (gPc w gSL σ sz [.ref (gad w 0), .int (iz x1)]) (gQi w gSL sz (post_X6_nodeEnd x1 σ)) 0 0 (gA w gSL.length sz) := by
  have hv : V_X6_nodeEnd x1 σ (post_X6_nodeEnd x1 σ) := v_X6_nodeEnd x1 σ hp
  refine g_met (by decide) [.ref (gad w 0), .int (iz x1)] (Nat.le_of_ble_eq_true rfl) ?_
  intro p e s m below meth c ls hz C0 hl G
  obtain ⟨hx, hb, hr, hml, hown, hts, hlk, hNw, hA⟩ := id C0
  have hown : s.vm.findClass RX6 = some m.cls := hown
  have hl : lv_has ls 2 [(0, .ref (gad w 0)), (1, .int (iz x1))] := hl
  refine lv_aload_n hx hb dX6_nodeEnd_0 rfl (lv_at hl 0 rfl) ?_
  obtain ⟨p1, hv⟩ := hv
  refine g_callVv (rest := []) hx hb hml hts hown hNw hA G [] (c_X6_refresh l w σ _ p1) sh_0 rfl wm_335 wm_336 wm_337 wm_2 wm_338 hd_X6_refresh ⟨rfl, rfl, Nat.le_of_ble_eq_true rfl, Nat.le_of_ble_eq_true rfl⟩ rfl hl.1 (Nat.le_of_ble_eq_true rfl) rfl dX6_nodeEnd_1 ⟨Nat.zero_le _, Nat.zero_le _⟩ (fun s2 H locs h3 G => ?_)
  have hv := hv s2 h3
  refine lv_aload_n hx hb dX6_nodeEnd_4 rfl (lv_at hl 0 rfl) ?_
  refine g_getR hx hb hts hown 5 61 inlX6 G sh_0 rfl (by decide) rfl wm_32 dX6_nodeEnd_5 ?_
  refine lv_iload_n hx hb dX6_nodeEnd_8 rfl (lv_at hl 1 rfl) ?_
  obtain ⟨p4, hv⟩ := hv
  refine g_callVi (rest := []) hx hb hml hts hown hNw hA G [.int (iz x1)] (c_X3_has l w s2 _ x1 p4) sh_61 rfl wm_530 wm_531 wm_532 wm_31 wm_533 hd_X3_has ⟨rfl, rfl, Nat.le_of_ble_eq_true rfl, Nat.le_of_ble_eq_true rfl⟩ rfl hl.1 (Nat.le_of_ble_eq_true rfl) rfl dX6_nodeEnd_9 ⟨Nat.zero_le _, Nat.zero_le _⟩ (fun r7 s5 H locs h6 G => ?_)
  obtain ⟨er7, es5⟩ := h6
  rw [es5] at G
  have hv := hv r7 er7
  obtain ⟨i8, hv⟩ := hv
  refine g_if_eq (tgt := 26) hx hb i8 dX6_nodeEnd_12 (by decide) (fun c9 => ?_) (fun c9 => ?_)
  · have hv := hv.1 c9
    refine lv_aload_n hx hb dX6_nodeEnd_26 rfl (lv_at hl 0 rfl) ?_
    refine lv_bipush (v := iz (-2)) hx hb dX6_nodeEnd_27 (by decide +kernel) ?_
    obtain ⟨p10, hv⟩ := hv
    refine g_callVi (rest := []) hx hb hml hts hown hNw hA G [.int (iz (-2))] (c_X6_fail l w s2 _ (-2) p10) sh_0 rfl wm_129 wm_130 wm_131 wm_2 wm_132 hd_X6_fail ⟨rfl, rfl, Nat.le_of_ble_eq_true rfl, Nat.le_of_ble_eq_true rfl⟩ rfl hl.1 (Nat.le_of_ble_eq_true rfl) rfl dX6_nodeEnd_29 ⟨Nat.zero_le _, Nat.zero_le _⟩ (fun r13 s11 H locs h12 G => ?_)
    have hv := hv r13 h12.1 s11 h12.2
    exact g_iret hx hb hr hlk hz G hv dX6_nodeEnd_32
  · have hv := hv.2 c9
    refine lv_aload_n hx hb dX6_nodeEnd_15 rfl (lv_at hl 0 rfl) ?_
    refine g_getR hx hb hts hown 5 61 inlX6 G sh_0 rfl (by decide) rfl wm_32 dX6_nodeEnd_16 ?_
    refine lv_iload_n hx hb dX6_nodeEnd_19 rfl (lv_at hl 1 rfl) ?_
    obtain ⟨p14, hv⟩ := hv
    refine g_callVi (rest := []) hx hb hml hts hown hNw hA G [.int (iz x1)] (c_X3_endOf l w s2 _ x1 p14) sh_61 rfl wm_582 wm_583 wm_584 wm_31 wm_585 hd_X3_endOf ⟨rfl, rfl, Nat.le_of_ble_eq_true rfl, Nat.le_of_ble_eq_true rfl⟩ rfl hl.1 (Nat.le_of_ble_eq_true rfl) rfl dX6_nodeEnd_20 ⟨Nat.zero_le _, Nat.zero_le _⟩ (fun r17 s15 H locs h16 G => ?_)
    obtain ⟨er17, es15⟩ := h16
    rw [es15] at G
    have hv := hv r17 er17
    refine lv_goto (tgt := 32) hx hb dX6_nodeEnd_23 (by decide) ?_
    exact g_iret hx hb hr hlk hz G hv dX6_nodeEnd_32
abbrev rm_X3_parentOf : Room := ({ frames := 1, cells := 0, slots := 0, locals := 21 } : Room)
theorem hd_X3_parentOf : yX3_parentOf.cls = RX3 ∧ yX3_parentOf.cls ≠ "java/lang/invoke/MethodHandle" ∧ yX3_parentOf.cls ≠ "java/lang/invoke/VarHandle" ∧ (parseMethodDescriptor yX3_parentOf.desc).map (fun d => d.parameters.length) = some 1 := ⟨rfl, by decide +kernel, by decide +kernel, by decide +kernel⟩
set_option maxHeartbeats 4000000 in
set_option maxRecDepth 100000 in
theorem c_X3_parentOf (l : Launch) (w : GW) (σ : St) (sz : Nat) (x1 : Int) (hp : pre_X3_parentOf x1 σ) : Met l yX3_parentOf (Cond.code yX3_parentOf cX3_parentOf 2 (some .int) :: wsL_law) rm_X3_parentOf (gPc w gSL σ sz [.ref (gad w 61), .int (iz x1)]) (gQi w gSL sz (post_X3_parentOf x1 σ)) 0 0 (gA w gSL.length sz) := by
  have hv : V_X3_parentOf x1 σ (post_X3_parentOf x1 σ) := v_X3_parentOf x1 σ hp
  refine g_met (by decide) [.ref (gad w 61), .int (iz x1)] (Nat.le_of_ble_eq_true rfl) ?_
  intro p e s m below meth c ls hz C0 hl G
  obtain ⟨hx, hb, hr, hml, hown, hts, hlk, hNw, hA⟩ := id C0
  have hown : s.vm.findClass RX3 = some m.cls := hown
  have hl : lv_has ls 2 [(0, .ref (gad w 61)), (1, .int (iz x1))] := hl
  refine lv_aload_n hx hb dX3_parentOf_0 rfl (lv_at hl 0 rfl) ?_
  refine g_getR hx hb hts hown 5 68 inlX3 G sh_61 rfl (by decide) rfl wm_90 dX3_parentOf_1 ?_
  refine lv_iload_n hx hb dX3_parentOf_4 rfl (lv_at hl 1 rfl) ?_
  obtain ⟨p1, hv⟩ := hv
  refine g_callVi (rest := []) hx hb hml hts hown hNw hA G [.int (iz x1)] (c_X4_get l w σ _ 68 100 ⟨sh_68, sh_69⟩ x1 p1) sh_68 rfl wm_415 wm_134 wm_135 wm_22 wm_136 hd_X4_get ⟨rfl, rfl, Nat.le_of_ble_eq_true rfl, Nat.le_of_ble_eq_true rfl⟩ rfl hl.1 (Nat.le_of_ble_eq_true rfl) rfl dX3_parentOf_5 ⟨Nat.zero_le _, Nat.zero_le _⟩ (fun r4 s2 H locs h3 G => ?_)
  obtain ⟨er4, es2⟩ := h3
  rw [es2] at G
  have hv := hv r4 er4
  exact g_iret hx hb hr hlk hz G hv dX3_parentOf_8
abbrev rm_X6_nodeParent : Room := ({ frames := 6, cells := 0, slots := 0, locals := 144 } : Room)
theorem hd_X6_nodeParent : yX6_nodeParent.cls = RX6 ∧ yX6_nodeParent.cls ≠ "java/lang/invoke/MethodHandle" ∧ yX6_nodeParent.cls ≠ "java/lang/invoke/VarHandle" ∧ (parseMethodDescriptor yX6_nodeParent.desc).map (fun d => d.parameters.length) = some 1 := ⟨rfl, by decide +kernel, by decide +kernel, by decide +kernel⟩
set_option maxHeartbeats 4000000 in
set_option maxRecDepth 100000 in
theorem c_X6_nodeParent (l : Launch) (w : GW) (σ : St) (sz : Nat) (x1 : Int) (hp : pre_X6_nodeParent x1 σ) : Met l yX6_nodeParent (Cond.code yX6_nodeParent cX6_nodeParent 2 (some .int) :: wsL_law) rm_X6_nodeParent (gPc w gSL σ sz [.ref (gad w 0), .int (iz x1)]) (gQi w gSL sz (post_X6_nodeParent x1 σ)) 0 0 (gA w gSL.length sz) := by
  have hv : V_X6_nodeParent x1 σ (post_X6_nodeParent x1 σ) := v_X6_nodeParent x1 σ hp
  refine g_met (by decide) [.ref (gad w 0), .int (iz x1)] (Nat.le_of_ble_eq_true rfl) ?_
  intro p e s m below meth c ls hz C0 hl G
  obtain ⟨hx, hb, hr, hml, hown, hts, hlk, hNw, hA⟩ := id C0
  have hown : s.vm.findClass RX6 = some m.cls := hown
  have hl : lv_has ls 2 [(0, .ref (gad w 0)), (1, .int (iz x1))] := hl
  refine lv_aload_n hx hb dX6_nodeParent_0 rfl (lv_at hl 0 rfl) ?_
  obtain ⟨p1, hv⟩ := hv
  refine g_callVv (rest := []) hx hb hml hts hown hNw hA G [] (c_X6_refresh l w σ _ p1) sh_0 rfl wm_335 wm_336 wm_337 wm_2 wm_338 hd_X6_refresh ⟨rfl, rfl, Nat.le_of_ble_eq_true rfl, Nat.le_of_ble_eq_true rfl⟩ rfl hl.1 (Nat.le_of_ble_eq_true rfl) rfl dX6_nodeParent_1 ⟨Nat.zero_le _, Nat.zero_le _⟩ (fun s2 H locs h3 G => ?_)
  have hv := hv s2 h3
  refine lv_aload_n hx hb dX6_nodeParent_4 rfl (lv_at hl 0 rfl) ?_
  refine g_getR hx hb hts hown 5 61 inlX6 G sh_0 rfl (by decide) rfl wm_32 dX6_nodeParent_5 ?_
  refine lv_iload_n hx hb dX6_nodeParent_8 rfl (lv_at hl 1 rfl) ?_
  obtain ⟨p4, hv⟩ := hv
  refine g_callVi (rest := []) hx hb hml hts hown hNw hA G [.int (iz x1)] (c_X3_has l w s2 _ x1 p4) sh_61 rfl wm_530 wm_531 wm_532 wm_31 wm_533 hd_X3_has ⟨rfl, rfl, Nat.le_of_ble_eq_true rfl, Nat.le_of_ble_eq_true rfl⟩ rfl hl.1 (Nat.le_of_ble_eq_true rfl) rfl dX6_nodeParent_9 ⟨Nat.zero_le _, Nat.zero_le _⟩ (fun r7 s5 H locs h6 G => ?_)
  obtain ⟨er7, es5⟩ := h6
  rw [es5] at G
  have hv := hv r7 er7
  obtain ⟨i8, hv⟩ := hv
  refine g_if_eq (tgt := 26) hx hb i8 dX6_nodeParent_12 (by decide) (fun c9 => ?_) (fun c9 => ?_)
  · have hv := hv.1 c9
    refine lv_aload_n hx hb dX6_nodeParent_26 rfl (lv_at hl 0 rfl) ?_
    refine lv_bipush (v := iz (-2)) hx hb dX6_nodeParent_27 (by decide +kernel) ?_
    obtain ⟨p10, hv⟩ := hv
    refine g_callVi (rest := []) hx hb hml hts hown hNw hA G [.int (iz (-2))] (c_X6_fail l w s2 _ (-2) p10) sh_0 rfl wm_129 wm_130 wm_131 wm_2 wm_132 hd_X6_fail ⟨rfl, rfl, Nat.le_of_ble_eq_true rfl, Nat.le_of_ble_eq_true rfl⟩ rfl hl.1 (Nat.le_of_ble_eq_true rfl) rfl dX6_nodeParent_29 ⟨Nat.zero_le _, Nat.zero_le _⟩ (fun r13 s11 H locs h12 G => ?_)
    have hv := hv r13 h12.1 s11 h12.2
    exact g_iret hx hb hr hlk hz G hv dX6_nodeParent_32
  · have hv := hv.2 c9
    refine lv_aload_n hx hb dX6_nodeParent_15 rfl (lv_at hl 0 rfl) ?_
    refine g_getR hx hb hts hown 5 61 inlX6 G sh_0 rfl (by decide) rfl wm_32 dX6_nodeParent_16 ?_
    refine lv_iload_n hx hb dX6_nodeParent_19 rfl (lv_at hl 1 rfl) ?_
    obtain ⟨p14, hv⟩ := hv
    refine g_callVi (rest := []) hx hb hml hts hown hNw hA G [.int (iz x1)] (c_X3_parentOf l w s2 _ x1 p14) sh_61 rfl wm_594 wm_595 wm_596 wm_31 wm_597 hd_X3_parentOf ⟨rfl, rfl, Nat.le_of_ble_eq_true rfl, Nat.le_of_ble_eq_true rfl⟩ rfl hl.1 (Nat.le_of_ble_eq_true rfl) rfl dX6_nodeParent_20 ⟨Nat.zero_le _, Nat.zero_le _⟩ (fun r17 s15 H locs h16 G => ?_)
    obtain ⟨er17, es15⟩ := h16
    rw [es15] at G
    have hv := hv r17 er17
    refine lv_goto (tgt := 32) hx hb dX6_nodeParent_23 (by decide) ?_
    exact g_iret hx hb hr hlk hz G hv dX6_nodeParent_32
abbrev rm_X3_depthOf : Room := ({ frames := 1, cells := 0, slots := 0, locals := 21 } : Room)
theorem hd_X3_depthOf : yX3_depthOf.cls = RX3 ∧ yX3_depthOf.cls ≠ "java/lang/invoke/MethodHandle" ∧ yX3_depthOf.cls ≠ "java/lang/invoke/VarHandle" ∧ (parseMethodDescriptor yX3_depthOf.desc).map (fun d => d.parameters.length) = some 1 := ⟨rfl, by decide +kernel, by decide +kernel, by decide +kernel⟩
set_option maxHeartbeats 4000000 in
set_option maxRecDepth 100000 in
theorem c_X3_depthOf (l : Launch) (w : GW) (σ : St) (sz : Nat) (x1 : Int) (hp : pre_X3_depthOf x1 σ) : Met l yX3_depthOf (Cond.code yX3_depthOf cX3_depthOf 2 (some .int) :: wsL_law) rm_X3_depthOf (gPc w gSL σ sz [.ref (gad w 61), .int (iz x1)]) (gQi w gSL sz (post_X3_depthOf x1 σ)) 0 0 (gA w gSL.length sz) := by
  have hv : V_X3_depthOf x1 σ (post_X3_depthOf x1 σ) := v_X3_depthOf x1 σ hp
  refine g_met (by decide) [.ref (gad w 61), .int (iz x1)] (Nat.le_of_ble_eq_true rfl) ?_
  intro p e s m below meth c ls hz C0 hl G
  obtain ⟨hx, hb, hr, hml, hown, hts, hlk, hNw, hA⟩ := id C0
  have hown : s.vm.findClass RX3 = some m.cls := hown
  have hl : lv_has ls 2 [(0, .ref (gad w 61)), (1, .int (iz x1))] := hl
  refine lv_aload_n hx hb dX3_depthOf_0 rfl (lv_at hl 0 rfl) ?_
  refine g_getR hx hb hts hown 6 70 inlX3 G sh_61 rfl (by decide) rfl wm_91 dX3_depthOf_1 ?_
  refine lv_iload_n hx hb dX3_depthOf_4 rfl (lv_at hl 1 rfl) ?_
  obtain ⟨p1, hv⟩ := hv
  refine g_callVi (rest := []) hx hb hml hts hown hNw hA G [.int (iz x1)] (c_X4_get l w σ _ 70 100 ⟨sh_70, sh_71⟩ x1 p1) sh_70 rfl wm_415 wm_134 wm_135 wm_22 wm_136 hd_X4_get ⟨rfl, rfl, Nat.le_of_ble_eq_true rfl, Nat.le_of_ble_eq_true rfl⟩ rfl hl.1 (Nat.le_of_ble_eq_true rfl) rfl dX3_depthOf_5 ⟨Nat.zero_le _, Nat.zero_le _⟩ (fun r4 s2 H locs h3 G => ?_)
  obtain ⟨er4, es2⟩ := h3
  rw [es2] at G
  have hv := hv r4 er4
  exact g_iret hx hb hr hlk hz G hv dX3_depthOf_8
abbrev rm_X6_nodeDepth : Room := ({ frames := 6, cells := 0, slots := 0, locals := 144 } : Room)
theorem hd_X6_nodeDepth : yX6_nodeDepth.cls = RX6 ∧ yX6_nodeDepth.cls ≠ "java/lang/invoke/MethodHandle" ∧ yX6_nodeDepth.cls ≠ "java/lang/invoke/VarHandle" ∧ (parseMethodDescriptor yX6_nodeDepth.desc).map (fun d => d.parameters.length) = some 1 := ⟨rfl, by decide +kernel, by decide +kernel, by decide +kernel⟩
set_option maxHeartbeats 4000000 in
set_option maxRecDepth 100000 in
theorem c_X6_nodeDepth (l : Launch) (w : GW) (σ : St) (sz : Nat) (x1 : Int) (hp : pre_X6_nodeDepth x1 σ) : Met l yX6_nodeDepth (Cond.code yX6_nodeDepth cX6_nodeDepth 2 (some .int) :: wsL_law) rm_X6_nodeDepth (gPc w gSL σ sz [.ref (gad w 0), .int (iz x1)]) (gQi w gSL sz (post_X6_nodeDepth x1 σ)) 0 0 (gA w gSL.length sz) := by
  have hv : V_X6_nodeDepth x1 σ (post_X6_nodeDepth x1 σ) := v_X6_nodeDepth x1 σ hp
  refine g_met (by decide) [.ref (gad w 0), .int (iz x1)] (Nat.le_of_ble_eq_true rfl) ?_
  intro p e s m below meth c ls hz C0 hl G
  obtain ⟨hx, hb, hr, hml, hown, hts, hlk, hNw, hA⟩ := id C0
  have hown : s.vm.findClass RX6 = some m.cls := hown
  have hl : lv_has ls 2 [(0, .ref (gad w 0)), (1, .int (iz x1))] := hl
  refine lv_aload_n hx hb dX6_nodeDepth_0 rfl (lv_at hl 0 rfl) ?_
  obtain ⟨p1, hv⟩ := hv
  refine g_callVv (rest := []) hx hb hml hts hown hNw hA G [] (c_X6_refresh l w σ _ p1) sh_0 rfl wm_335 wm_336 wm_337 wm_2 wm_338 hd_X6_refresh ⟨rfl, rfl, Nat.le_of_ble_eq_true rfl, Nat.le_of_ble_eq_true rfl⟩ rfl hl.1 (Nat.le_of_ble_eq_true rfl) rfl dX6_nodeDepth_1 ⟨Nat.zero_le _, Nat.zero_le _⟩ (fun s2 H locs h3 G => ?_)
  have hv := hv s2 h3
  refine lv_aload_n hx hb dX6_nodeDepth_4 rfl (lv_at hl 0 rfl) ?_
  refine g_getR hx hb hts hown 5 61 inlX6 G sh_0 rfl (by decide) rfl wm_32 dX6_nodeDepth_5 ?_
  refine lv_iload_n hx hb dX6_nodeDepth_8 rfl (lv_at hl 1 rfl) ?_
  obtain ⟨p4, hv⟩ := hv
  refine g_callVi (rest := []) hx hb hml hts hown hNw hA G [.int (iz x1)] (c_X3_has l w s2 _ x1 p4) sh_61 rfl wm_530 wm_531 wm_532 wm_31 wm_533 hd_X3_has ⟨rfl, rfl, Nat.le_of_ble_eq_true rfl, Nat.le_of_ble_eq_true rfl⟩ rfl hl.1 (Nat.le_of_ble_eq_true rfl) rfl dX6_nodeDepth_9 ⟨Nat.zero_le _, Nat.zero_le _⟩ (fun r7 s5 H locs h6 G => ?_)
  obtain ⟨er7, es5⟩ := h6
  rw [es5] at G
  have hv := hv r7 er7
  obtain ⟨i8, hv⟩ := hv
  refine g_if_eq (tgt := 26) hx hb i8 dX6_nodeDepth_12 (by decide) (fun c9 => ?_) (fun c9 => ?_)
  · have hv := hv.1 c9
    refine lv_aload_n hx hb dX6_nodeDepth_26 rfl (lv_at hl 0 rfl) ?_
    refine lv_bipush (v := iz (-2)) hx hb dX6_nodeDepth_27 (by decide +kernel) ?_
    obtain ⟨p10, hv⟩ := hv
    refine g_callVi (rest := []) hx hb hml hts hown hNw hA G [.int (iz (-2))] (c_X6_fail l w s2 _ (-2) p10) sh_0 rfl wm_129 wm_130 wm_131 wm_2 wm_132 hd_X6_fail ⟨rfl, rfl, Nat.le_of_ble_eq_true rfl, Nat.le_of_ble_eq_true rfl⟩ rfl hl.1 (Nat.le_of_ble_eq_true rfl) rfl dX6_nodeDepth_29 ⟨Nat.zero_le _, Nat.zero_le _⟩ (fun r13 s11 H locs h12 G => ?_)
    have hv := hv r13 h12.1 s11 h12.2
    exact g_iret hx hb hr hlk hz G hv dX6_nodeDepth_32
  · have hv := hv.2 c9
    refine lv_aload_n hx hb dX6_nodeDepth_15 rfl (lv_at hl 0 rfl) ?_
    refine g_getR hx hb hts hown 5 61 inlX6 G sh_0 rfl (by decide) rfl wm_32 dX6_nodeDepth_16 ?_
    refine lv_iload_n hx hb dX6_nodeDepth_19 rfl (lv_at hl 1 rfl) ?_
    obtain ⟨p14, hv⟩ := hv
    refine g_callVi (rest := []) hx hb hml hts hown hNw hA G [.int (iz x1)] (c_X3_depthOf l w s2 _ x1 p14) sh_61 rfl wm_606 wm_607 wm_608 wm_31 wm_609 hd_X3_depthOf ⟨rfl, rfl, Nat.le_of_ble_eq_true rfl, Nat.le_of_ble_eq_true rfl⟩ rfl hl.1 (Nat.le_of_ble_eq_true rfl) rfl dX6_nodeDepth_20 ⟨Nat.zero_le _, Nat.zero_le _⟩ (fun r17 s15 H locs h16 G => ?_)
    obtain ⟨er17, es15⟩ := h16
    rw [es15] at G
    have hv := hv r17 er17
    refine lv_goto (tgt := 32) hx hb dX6_nodeDepth_23 (by decide) ?_
    exact g_iret hx hb hr hlk hz G hv dX6_nodeDepth_32
abbrev rm_X3_waterOf : Room := ({ frames := 1, cells := 0, slots := 0, locals := 21 } : Room)
theorem hd_X3_waterOf : yX3_waterOf.cls = RX3 ∧ yX3_waterOf.cls ≠ "java/lang/invoke/MethodHandle" ∧ yX3_waterOf.cls ≠ "java/lang/invoke/VarHandle" ∧ (parseMethodDescriptor yX3_waterOf.desc).map (fun d => d.parameters.length) = some 1 := ⟨rfl, by decide +kernel, by decide +kernel, by decide +kernel⟩
set_option maxHeartbeats 4000000 in
set_option maxRecDepth 100000 in
theorem c_X3_waterOf (l : Launch) (w : GW) (σ : St) (sz : Nat) (x1 : Int) (hp : pre_X3_waterOf x1 σ) : Met l yX3_waterOf (Cond.code yX3_waterOf cX3_waterOf 2 (some .int) :: wsL_law) rm_X3_waterOf (gPc w gSL σ sz [.ref (gad w 61), .int (iz x1)]) (gQi w gSL sz (post_X3_waterOf x1 σ)) 0 0 (gA w gSL.length sz) := by
  have hv : V_X3_waterOf x1 σ (post_X3_waterOf x1 σ) := v_X3_waterOf x1 σ hp
  refine g_met (by decide) [.ref (gad w 61), .int (iz x1)] (Nat.le_of_ble_eq_true rfl) ?_
  intro p e s m below meth c ls hz C0 hl G
  obtain ⟨hx, hb, hr, hml, hown, hts, hlk, hNw, hA⟩ := id C0
  have hown : s.vm.findClass RX3 = some m.cls := hown
  have hl : lv_has ls 2 [(0, .ref (gad w 61)), (1, .int (iz x1))] := hl
  refine lv_aload_n hx hb dX3_waterOf_0 rfl (lv_at hl 0 rfl) ?_
  refine g_getR hx hb hts hown 7 72 inlX3 G sh_61 rfl (by decide) rfl wm_92 dX3_waterOf_1 ?_
  refine lv_iload_n hx hb dX3_waterOf_4 rfl (lv_at hl 1 rfl) ?_
  obtain ⟨p1, hv⟩ := hv
  refine g_callVi (rest := []) hx hb hml hts hown hNw hA G [.int (iz x1)] (c_X4_get l w σ _ 72 100 ⟨sh_72, sh_73⟩ x1 p1) sh_72 rfl wm_415 wm_134 wm_135 wm_22 wm_136 hd_X4_get ⟨rfl, rfl, Nat.le_of_ble_eq_true rfl, Nat.le_of_ble_eq_true rfl⟩ rfl hl.1 (Nat.le_of_ble_eq_true rfl) rfl dX3_waterOf_5 ⟨Nat.zero_le _, Nat.zero_le _⟩ (fun r4 s2 H locs h3 G => ?_)
  obtain ⟨er4, es2⟩ := h3
  rw [es2] at G
  have hv := hv r4 er4
  exact g_iret hx hb hr hlk hz G hv dX3_waterOf_8
abbrev rm_X6_nodeWater : Room := ({ frames := 6, cells := 0, slots := 0, locals := 144 } : Room)
theorem hd_X6_nodeWater : yX6_nodeWater.cls = RX6 ∧ yX6_nodeWater.cls ≠ "java/lang/invoke/MethodHandle" ∧ yX6_nodeWater.cls ≠ "java/lang/invoke/VarHandle" ∧ (parseMethodDescriptor yX6_nodeWater.desc).map (fun d => d.parameters.length) = some 1 := ⟨rfl, by decide +kernel, by decide +kernel, by decide +kernel⟩
set_option maxHeartbeats 4000000 in
set_option maxRecDepth 100000 in
theorem c_X6_nodeWater (l : Launch) (w : GW) (σ : St) (sz : Nat) (x1 : Int) (hp : pre_X6_nodeWater x1 σ) : Met l yX6_nodeWater (Cond.code yX6_nodeWater cX6_nodeWater 2 (some .int) :: wsL_law) rm_X6_nodeWater (gPc w gSL σ sz [.ref (gad w 0), .int (iz x1)]) (gQi w gSL sz (post_X6_nodeWater x1 σ)) 0 0 (gA w gSL.length sz) := by
  have hv : V_X6_nodeWater x1 σ (post_X6_nodeWater x1 σ) := v_X6_nodeWater x1 σ hp
  refine g_met (by decide) [.ref (gad w 0), .int (iz x1)] (Nat.le_of_ble_eq_true rfl) ?_
  intro p e s m below meth c ls hz C0 hl G
  obtain ⟨hx, hb, hr, hml, hown, hts, hlk, hNw, hA⟩ := id C0
  have hown : s.vm.findClass RX6 = some m.cls := hown
  have hl : lv_has ls 2 [(0, .ref (gad w 0)), (1, .int (iz x1))] := hl
  refine lv_aload_n hx hb dX6_nodeWater_0 rfl (lv_at hl 0 rfl) ?_
  obtain ⟨p1, hv⟩ := hv
  refine g_callVv (rest := []) hx hb hml hts hown hNw hA G [] (c_X6_refresh l w σ _ p1) sh_0 rfl wm_335 wm_336 wm_337 wm_2 wm_338 hd_X6_refresh ⟨rfl, rfl, Nat.le_of_ble_eq_true rfl, Nat.le_of_ble_eq_true rfl⟩ rfl hl.1 (Nat.le_of_ble_eq_true rfl) rfl dX6_nodeWater_1 ⟨Nat.zero_le _, Nat.zero_le _⟩ (fun s2 H locs h3 G => ?_)
  have hv := hv s2 h3
  refine lv_aload_n hx hb dX6_nodeWater_4 rfl (lv_at hl 0 rfl) ?_
  refine g_getR hx hb hts hown 5 61 inlX6 G sh_0 rfl (by decide) rfl wm_32 dX6_nodeWater_5 ?_
  refine lv_iload_n hx hb dX6_nodeWater_8 rfl (lv_at hl 1 rfl) ?_
  obtain ⟨p4, hv⟩ := hv
  refine g_callVi (rest := []) hx hb hml hts hown hNw hA G [.int (iz x1)] (c_X3_has l w s2 _ x1 p4) sh_61 rfl wm_530 wm_531 wm_532 wm_31 wm_533 hd_X3_has ⟨rfl, rfl, Nat.le_of_ble_eq_true rfl, Nat.le_of_ble_eq_true rfl⟩ rfl hl.1 (Nat.le_of_ble_eq_true rfl) rfl dX6_nodeWater_9 ⟨Nat.zero_le _, Nat.zero_le _⟩ (fun r7 s5 H locs h6 G => ?_)
  obtain ⟨er7, es5⟩ := h6
  rw [es5] at G
  have hv := hv r7 er7
  obtain ⟨i8, hv⟩ := hv
  refine g_if_eq (tgt := 26) hx hb i8 dX6_nodeWater_12 (by decide) (fun c9 => ?_) (fun c9 => ?_)
  · have hv := hv.1 c9
    refine lv_aload_n hx hb dX6_nodeWater_26 rfl (lv_at hl 0 rfl) ?_
    refine lv_bipush (v := iz (-2)) hx hb dX6_nodeWater_27 (by decide +kernel) ?_
    obtain ⟨p10, hv⟩ := hv
    refine g_callVi (rest := []) hx hb hml hts hown hNw hA G [.int (iz (-2))] (c_X6_fail l w s2 _ (-2) p10) sh_0 rfl wm_129 wm_130 wm_131 wm_2 wm_132 hd_X6_fail ⟨rfl, rfl, Nat.le_of_ble_eq_true rfl, Nat.le_of_ble_eq_true rfl⟩ rfl hl.1 (Nat.le_of_ble_eq_true rfl) rfl dX6_nodeWater_29 ⟨Nat.zero_le _, Nat.zero_le _⟩ (fun r13 s11 H locs h12 G => ?_)
    have hv := hv r13 h12.1 s11 h12.2
    exact g_iret hx hb hr hlk hz G hv dX6_nodeWater_32
  · have hv := hv.2 c9
    refine lv_aload_n hx hb dX6_nodeWater_15 rfl (lv_at hl 0 rfl) ?_
    refine g_getR hx hb hts hown 5 61 inlX6 G sh_0 rfl (by decide) rfl wm_32 dX6_nodeWater_16 ?_
    refine lv_iload_n hx hb dX6_nodeWater_19 rfl (lv_at hl 1 rfl) ?_
    obtain ⟨p14, hv⟩ := hv
    refine g_callVi (rest := []) hx hb hml hts hown hNw hA G [.int (iz x1)] (c_X3_waterOf l w s2 _ x1 p14) sh_61 rfl wm_618 wm_619 wm_620 wm_31 wm_621 hd_X3_waterOf ⟨rfl, rfl, Nat.le_of_ble_eq_true rfl, Nat.le_of_ble_eq_true rfl⟩ rfl hl.1 (Nat.le_of_ble_eq_true rfl) rfl dX6_nodeWater_20 ⟨Nat.zero_le _, Nat.zero_le _⟩ (fun r17 s15 H locs h16 G => ?_)
    obtain ⟨er17, es15⟩ := h16
    rw [es15] at G
    have hv := hv r17 er17
    refine lv_goto (tgt := 32) hx hb dX6_nodeWater_23 (by decide) ?_
    exact g_iret hx hb hr hlk hz G hv dX6_nodeWater_32
abbrev rm_X3_numberOf : Room := ({ frames := 1, cells := 0, slots := 0, locals := 21 } : Room)
theorem hd_X3_numberOf : yX3_numberOf.cls = RX3 ∧ yX3_numberOf.cls ≠ "java/lang/invoke/MethodHandle" ∧ yX3_numberOf.cls ≠ "java/lang/invoke/VarHandle" ∧ (parseMethodDescriptor yX3_numberOf.desc).map (fun d => d.parameters.length) = some 1 := ⟨rfl, by decide +kernel, by decide +kernel, by decide +kernel⟩
set_option maxHeartbeats 4000000 in
set_option maxRecDepth 100000 in
theorem c_X3_numberOf (l : Launch) (w : GW) (σ : St) (sz : Nat) (x1 : Int) (hp : pre_X3_numberOf x1 σ) : Met l yX3_numberOf (Cond.code yX3_numberOf cX3_numberOf 2 (some .int) :: wsL_law) rm_X3_numberOf (gPc w gSL σ sz [.ref (gad w 61), .int (iz x1)]) (gQi w gSL sz (post_X3_numberOf x1 σ)) 0 0 (gA w gSL.length sz) := by
  have hv : V_X3_numberOf x1 σ (post_X3_numberOf x1 σ) := v_X3_numberOf x1 σ hp
  refine g_met (by decide) [.ref (gad w 61), .int (iz x1)] (Nat.le_of_ble_eq_true rfl) ?_
  intro p e s m below meth c ls hz C0 hl G
  obtain ⟨hx, hb, hr, hml, hown, hts, hlk, hNw, hA⟩ := id C0
  have hown : s.vm.findClass RX3 = some m.cls := hown
  have hl : lv_has ls 2 [(0, .ref (gad w 61)), (1, .int (iz x1))] := hl
  refine lv_aload_n hx hb dX3_numberOf_0 rfl (lv_at hl 0 rfl) ?_
  refine g_getR hx hb hts hown 8 74 inlX3 G sh_61 rfl (by decide) rfl wm_93 dX3_numberOf_1 ?_
  refine lv_iload_n hx hb dX3_numberOf_4 rfl (lv_at hl 1 rfl) ?_
  obtain ⟨p1, hv⟩ := hv
  refine g_callVi (rest := []) hx hb hml hts hown hNw hA G [.int (iz x1)] (c_X4_get l w σ _ 74 100 ⟨sh_74, sh_75⟩ x1 p1) sh_74 rfl wm_415 wm_134 wm_135 wm_22 wm_136 hd_X4_get ⟨rfl, rfl, Nat.le_of_ble_eq_true rfl, Nat.le_of_ble_eq_true rfl⟩ rfl hl.1 (Nat.le_of_ble_eq_true rfl) rfl dX3_numberOf_5 ⟨Nat.zero_le _, Nat.zero_le _⟩ (fun r4 s2 H locs h3 G => ?_)
  obtain ⟨er4, es2⟩ := h3
  rw [es2] at G
  have hv := hv r4 er4
  exact g_iret hx hb hr hlk hz G hv dX3_numberOf_8
abbrev rm_X6_nodeNumber : Room := ({ frames := 6, cells := 0, slots := 0, locals := 144 } : Room)
theorem hd_X6_nodeNumber : yX6_nodeNumber.cls = RX6 ∧ yX6_nodeNumber.cls ≠ "java/lang/invoke/MethodHandle" ∧ yX6_nodeNumber.cls ≠ "java/lang/invoke/VarHandle" ∧ (parseMethodDescriptor yX6_nodeNumber.desc).map (fun d => d.parameters.length) = some 1 := ⟨rfl, by decide +kernel, by decide +kernel, by decide +kernel⟩
set_option maxHeartbeats 4000000 in
set_option maxRecDepth 100000 in
theorem c_X6_nodeNumber (l : Launch) (w : GW) (σ : St) (sz : Nat) (x1 : Int) (hp : pre_X6_nodeNumber x1 σ) : Met l yX6_nodeNumber (Cond.code yX6_nodeNumber cX6_nodeNumber 2 (some .int) :: wsL_law) rm_X6_nodeNumber (gPc w gSL σ sz [.ref (gad w 0), .int (iz x1)]) (gQi w gSL sz (post_X6_nodeNumber x1 σ)) 0 0 (gA w gSL.length sz) := by
  have hv : V_X6_nodeNumber x1 σ (post_X6_nodeNumber x1 σ) := v_X6_nodeNumber x1 σ hp
  refine g_met (by decide) [.ref (gad w 0), .int (iz x1)] (Nat.le_of_ble_eq_true rfl) ?_
  intro p e s m below meth c ls hz C0 hl G
  obtain ⟨hx, hb, hr, hml, hown, hts, hlk, hNw, hA⟩ := id C0
  have hown : s.vm.findClass RX6 = some m.cls := hown
  have hl : lv_has ls 2 [(0, .ref (gad w 0)), (1, .int (iz x1))] := hl
  refine lv_aload_n hx hb dX6_nodeNumber_0 rfl (lv_at hl 0 rfl) ?_
  obtain ⟨p1, hv⟩ := hv
  refine g_callVv (rest := []) hx hb hml hts hown hNw hA G [] (c_X6_refresh l w σ _ p1) sh_0 rfl wm_335 wm_336 wm_337 wm_2 wm_338 hd_X6_refresh ⟨rfl, rfl, Nat.le_of_ble_eq_true rfl, Nat.le_of_ble_eq_true rfl⟩ rfl hl.1 (Nat.le_of_ble_eq_true rfl) rfl dX6_nodeNumber_1 ⟨Nat.zero_le _, Nat.zero_le _⟩ (fun s2 H locs h3 G => ?_)
  have hv := hv s2 h3
  refine lv_aload_n hx hb dX6_nodeNumber_4 rfl (lv_at hl 0 rfl) ?_
  refine g_getR hx hb hts hown 5 61 inlX6 G sh_0 rfl (by decide) rfl wm_32 dX6_nodeNumber_5 ?_
  refine lv_iload_n hx hb dX6_nodeNumber_8 rfl (lv_at hl 1 rfl) ?_
  obtain ⟨p4, hv⟩ := hv
  refine g_callVi (rest := []) hx hb hml hts hown hNw hA G [.int (iz x1)] (c_X3_has l w s2 _ x1 p4) sh_61 rfl wm_530 wm_531 wm_532 wm_31 wm_533 hd_X3_has ⟨rfl, rfl, Nat.le_of_ble_eq_true rfl, Nat.le_of_ble_eq_true rfl⟩ rfl hl.1 (Nat.le_of_ble_eq_true rfl) rfl dX6_nodeNumber_9 ⟨Nat.zero_le _, Nat.zero_le _⟩ (fun r7 s5 H locs h6 G => ?_)
  obtain ⟨er7, es5⟩ := h6
  rw [es5] at G
  have hv := hv r7 er7
  obtain ⟨i8, hv⟩ := hv
  refine g_if_eq (tgt := 26) hx hb i8 dX6_nodeNumber_12 (by decide) (fun c9 => ?_) (fun c9 => ?_)
  · have hv := hv.1 c9
    refine lv_aload_n hx hb dX6_nodeNumber_26 rfl (lv_at hl 0 rfl) ?_
    refine lv_bipush (v := iz (-2)) hx hb dX6_nodeNumber_27 (by decide +kernel) ?_
    obtain ⟨p10, hv⟩ := hv
    refine g_callVi (rest := []) hx hb hml hts hown hNw hA G [.int (iz (-2))] (c_X6_fail l w s2 _ (-2) p10) sh_0 rfl wm_129 wm_130 wm_131 wm_2 wm_132 hd_X6_fail ⟨rfl, rfl, Nat.le_of_ble_eq_true rfl, Nat.le_of_ble_eq_true rfl⟩ rfl hl.1 (Nat.le_of_ble_eq_true rfl) rfl dX6_nodeNumber_29 ⟨Nat.zero_le _, Nat.zero_le _⟩ (fun r13 s11 H locs h12 G => ?_)
    have hv := hv r13 h12.1 s11 h12.2
    exact g_iret hx hb hr hlk hz G hv dX6_nodeNumber_32
  · have hv := hv.2 c9
    refine lv_aload_n hx hb dX6_nodeNumber_15 rfl (lv_at hl 0 rfl) ?_
    refine g_getR hx hb hts hown 5 61 inlX6 G sh_0 rfl (by decide) rfl wm_32 dX6_nodeNumber_16 ?_
    refine lv_iload_n hx hb dX6_nodeNumber_19 rfl (lv_at hl 1 rfl) ?_
    obtain ⟨p14, hv⟩ := hv
    refine g_callVi (rest := []) hx hb hml hts hown hNw hA G [.int (iz x1)] (c_X3_numberOf l w s2 _ x1 p14) sh_61 rfl wm_630 wm_631 wm_632 wm_31 wm_633 hd_X3_numberOf ⟨rfl, rfl, Nat.le_of_ble_eq_true rfl, Nat.le_of_ble_eq_true rfl⟩ rfl hl.1 (Nat.le_of_ble_eq_true rfl) rfl dX6_nodeNumber_20 ⟨Nat.zero_le _, Nat.zero_le _⟩ (fun r17 s15 H locs h16 G => ?_)
    obtain ⟨er17, es15⟩ := h16
    rw [es15] at G
    have hv := hv r17 er17
    refine lv_goto (tgt := 32) hx hb dX6_nodeNumber_23 (by decide) ?_
    exact g_iret hx hb hr hlk hz G hv dX6_nodeNumber_32
abbrev rm_X3_innermostAt : Room := ({ frames := 1, cells := 0, slots := 0, locals := 21 } : Room)
theorem hd_X3_innermostAt : yX3_innermostAt.cls = RX3 ∧ yX3_innermostAt.cls ≠ "java/lang/invoke/MethodHandle" ∧ yX3_innermostAt.cls ≠ "java/lang/invoke/VarHandle" ∧ (parseMethodDescriptor yX3_innermostAt.desc).map (fun d => d.parameters.length) = some 1 := ⟨rfl, by decide +kernel, by decide +kernel, by decide +kernel⟩
set_option maxHeartbeats 4000000 in
set_option maxRecDepth 100000 in
theorem lw_X3_innermostAt_7 {p : Program} {l : Launch} {e : Env} {s : State} {m : MethodId} {args : Array Value} {below : List Frame} {meth : Method} {c : Code} {w : GW} {sz : Nat} (hz : s.heap.size = sz) (C0 : gC p s m args meth c cX3_innermostAt (some .int) 3 yX3_innermostAt.cls (gA w gSL.length sz)) (Q : Int → St → Prop) (y1 : Int) : ∀ (n : Nat) (y2 : Int) (σ : St) (H : Heap) (locs : List Loc) (ls : Array Slot), L_X3_innermostAt_7 Q y1 n y2 σ → gS w gSL σ (gA w gSL.length sz) s s.heap H locs → lv_has ls 3 [(0, .ref (gad w 61)), (1, .int (iz y1)), (2, .int (iz y2))] → W p l e rm_X3_innermostAt s m args below meth c H locs 0 0 (MQ below (gQi w gSL sz Q) args s 0 0 (gA w gSL.length sz)) (F0 m 7 ls []) := by
  obtain ⟨hx, hb, hr, hml, hown, hts, hlk, hNw, hA⟩ := id C0
  have hown : s.vm.findClass RX3 = some m.cls := hown
  intro n
  induction n with
  | zero => intro y2 σ H locs ls hv; exact hv.elim
  | succ n ih =>
    intro y2 σ H locs ls hv G hl
    refine lv_iload_n hx hb dX3_innermostAt_7 rfl (lv_at hl 2 rfl) ?_
    obtain ⟨i1, hv⟩ := hv
    refine g_if_lt (tgt := 43) hx hb i1 dX3_innermostAt_8 (by decide) (fun c2 => ?_) (fun c2 => ?_)
    · have hv := hv.1 c2
      refine lv_iconst (v := iz (-1)) hx hb dX3_innermostAt_43 rfl ?_
      exact g_iret hx hb hr hlk hz G hv dX3_innermostAt_44
    · have hv := hv.2 c2
      refine lv_aload_n hx hb dX3_innermostAt_11 rfl (lv_at hl 0 rfl) ?_
      refine g_getR hx hb hts hown 3 64 inlX3 G sh_61 rfl (by decide) rfl wm_88 dX3_innermostAt_12 ?_
      refine lv_iload_n hx hb dX3_innermostAt_15 rfl (lv_at hl 2 rfl) ?_
      obtain ⟨p3, hv⟩ := hv
      refine g_callVi (rest := []) hx hb hml hts hown hNw hA G [.int (iz y2)] (c_X4_get l w σ _ 64 100 ⟨sh_64, sh_65⟩ y2 p3) sh_64 rfl wm_415 wm_134 wm_135 wm_22 wm_136 hd_X4_get ⟨rfl, rfl, Nat.le_of_ble_eq_true rfl, Nat.le_of_ble_eq_true rfl⟩ rfl hl.1 (Nat.le_of_ble_eq_true rfl) rfl dX3_innermostAt_16 ⟨Nat.zero_le _, Nat.zero_le _⟩ (fun r6 s4 H locs h5 G => ?_)
      obtain ⟨er6, es4⟩ := h5
      rw [es4] at G
      have hv := hv r6 er6
      refine lv_iload_n hx hb dX3_innermostAt_19 rfl (lv_at hl 1 rfl) ?_
      obtain ⟨i7, hv⟩ := hv
      obtain ⟨i8, hv⟩ := hv
      refine g_icmp_gt (tgt := 37) hx hb i7 i8 dX3_innermostAt_20 (by decide) (fun c9 => ?_) (fun c9 => ?_)
      · have hv := hv.1 c9
        refine g_iinc (k := 2) (x := y2) (n := (-1)) (lv' := [(2, .int (iz (y2 + (-1)))), (0, .ref (gad w 61)), (1, .int (iz y1))]) hx hb dX3_innermostAt_37 hl rfl (by decide) rfl (fun ls hl => ?_)
        refine lv_goto (tgt := 7) hx hb dX3_innermostAt_40 (by decide) ?_
        exact ih _ _ _ _ _ hv G (lv_sub hl [1, 2, 0] rfl)
      · have hv := hv.2 c9
        refine lv_iload_n hx hb dX3_innermostAt_23 rfl (lv_at hl 1 rfl) ?_
        refine lv_aload_n hx hb dX3_innermostAt_24 rfl (lv_at hl 0 rfl) ?_
        refine g_getR hx hb hts hown 4 66 inlX3 G sh_61 rfl (by decide) rfl wm_89 dX3_innermostAt_25 ?_
        refine lv_iload_n hx hb dX3_innermostAt_28 rfl (lv_at hl 2 rfl) ?_
        obtain ⟨p10, hv⟩ := hv
        refine g_callVi (rest := [.int (iz y1)]) hx hb hml hts hown hNw hA G [.int (iz y2)] (c_X4_get l w σ _ 66 100 ⟨sh_66, sh_67⟩ y2 p10) sh_66 rfl wm_415 wm_134 wm_135 wm_22 wm_136 hd_X4_get ⟨rfl, rfl, Nat.le_of_ble_eq_true rfl, Nat.le_of_ble_eq_true rfl⟩ rfl hl.1 (Nat.le_of_ble_eq_true rfl) rfl dX3_innermostAt_29 ⟨Nat.zero_le _, Nat.zero_le _⟩ (fun r13 s11 H locs h12 G => ?_)
        obtain ⟨er13, es11⟩ := h12
        rw [es11] at G
        have hv := hv r13 er13
        obtain ⟨i14, hv⟩ := hv
        refine g_icmp_ge (tgt := 37) hx hb i8 i14 dX3_innermostAt_32 (by decide) (fun c15 => ?_) (fun c15 => ?_)
        · have hv := hv.1 c15
          refine g_iinc (k := 2) (x := y2) (n := (-1)) (lv' := [(2, .int (iz (y2 + (-1)))), (0, .ref (gad w 61)), (1, .int (iz y1))]) hx hb dX3_innermostAt_37 hl rfl (by decide) rfl (fun ls hl => ?_)
          refine lv_goto (tgt := 7) hx hb dX3_innermostAt_40 (by decide) ?_
          exact ih _ _ _ _ _ hv G (lv_sub hl [1, 2, 0] rfl)
        · have hv := hv.2 c15
          refine lv_iload_n hx hb dX3_innermostAt_35 rfl (lv_at hl 2 rfl) ?_
          exact g_iret hx hb hr hlk hz G hv dX3_innermostAt_36
set_option maxHeartbeats 4000000 in
set_option maxRecDepth 100000 in
theorem c_X3_innermostAt (l : Launch) (w : GW) (σ : St) (sz : Nat) (x1 : Int) (hp : pre_X3_innermostAt x1 σ) : Met l yX3_innermostAt (Cond.code yX3_innermostAt cX3_innermostAt 3 (some .int) :: wsL_law) rm_X3_innermostAt (gPc w gSL σ sz [.ref (gad w 61), .int (iz x1)]) (gQi w gSL sz (post_X3_innermostAt x1 σ)) 0 0 (gA w gSL.length sz) := by
  have hv : V_X3_innermostAt x1 σ (post_X3_innermostAt x1 σ) := v_X3_innermostAt x1 σ hp
  refine g_met (by decide) [.ref (gad w 61), .int (iz x1)] (Nat.le_of_ble_eq_true rfl) ?_
  intro p e s m below meth c ls hz C0 hl G
  obtain ⟨hx, hb, hr, hml, hown, hts, hlk, hNw, hA⟩ := id C0
  have hown : s.vm.findClass RX3 = some m.cls := hown
  have hl : lv_has ls 3 [(0, .ref (gad w 61)), (1, .int (iz x1))] := hl
  refine lv_aload_n hx hb dX3_innermostAt_0 rfl (lv_at hl 0 rfl) ?_
  refine g_getI hx hb hts hown 11 inlX3 G sh_61 rfl (by decide) rfl wm_96 dX3_innermostAt_1 ?_
  refine lv_iconst (v := iz 1) hx hb dX3_innermostAt_4 rfl ?_
  refine g_isub hx hb dX3_innermostAt_5 ?_
  refine lv_istore_n (lv' := [(2, .int (iz ((σ 61 11) - 1))), (0, .ref (gad w 61)), (1, .int (iz x1))]) hx hb dX3_innermostAt_6 rfl hl (by decide) rfl (fun ls hl => ?_)
  obtain ⟨n_, hv⟩ := hv
  exact lw_X3_innermostAt_7 (l := l) (p := p) (e := e) hz C0 _ x1 n_ _ _ _ _ _ hv G (lv_sub hl [1, 2, 0] rfl)
abbrev rm_X6_nodeAt : Room := ({ frames := 6, cells := 0, slots := 0, locals := 144 } : Room)
theorem hd_X6_nodeAt : yX6_nodeAt.cls = RX6 ∧ yX6_nodeAt.cls ≠ "java/lang/invoke/MethodHandle" ∧ yX6_nodeAt.cls ≠ "java/lang/invoke/VarHandle" ∧ (parseMethodDescriptor yX6_nodeAt.desc).map (fun d => d.parameters.length) = some 1 := ⟨rfl, by decide +kernel, by decide +kernel, by decide +kernel⟩
set_option maxHeartbeats 4000000 in
set_option maxRecDepth 100000 in
theorem c_X6_nodeAt (l : Launch) (w : GW) (σ : St) (sz : Nat) (x1 : Int) (hp : pre_X6_nodeAt x1 σ) : Met l yX6_nodeAt (Cond.code yX6_nodeAt cX6_nodeAt 2 (some .int) :: wsL_law) rm_X6_nodeAt (gPc w gSL σ sz [.ref (gad w 0), .int (iz x1)]) (gQi w gSL sz (post_X6_nodeAt x1 σ)) 0 0 (gA w gSL.length sz) := by
  have hv : V_X6_nodeAt x1 σ (post_X6_nodeAt x1 σ) := v_X6_nodeAt x1 σ hp
  refine g_met (by decide) [.ref (gad w 0), .int (iz x1)] (Nat.le_of_ble_eq_true rfl) ?_
  intro p e s m below meth c ls hz C0 hl G
  obtain ⟨hx, hb, hr, hml, hown, hts, hlk, hNw, hA⟩ := id C0
  have hown : s.vm.findClass RX6 = some m.cls := hown
  have hl : lv_has ls 2 [(0, .ref (gad w 0)), (1, .int (iz x1))] := hl
  refine lv_aload_n hx hb dX6_nodeAt_0 rfl (lv_at hl 0 rfl) ?_
  refine lv_iload_n hx hb dX6_nodeAt_1 rfl (lv_at hl 1 rfl) ?_
  obtain ⟨p1, hv⟩ := hv
  refine g_callVi (rest := []) hx hb hml hts hown hNw hA G [.int (iz x1)] (c_X6_isInText l w σ _ x1 p1) sh_0 rfl wm_195 wm_196 wm_197 wm_2 wm_198 hd_X6_isInText ⟨rfl, rfl, Nat.le_of_ble_eq_true rfl, Nat.le_of_ble_eq_true rfl⟩ rfl hl.1 (Nat.le_of_ble_eq_true rfl) rfl dX6_nodeAt_2 ⟨Nat.zero_le _, Nat.zero_le _⟩ (fun r4 s2 H locs h3 G => ?_)
  obtain ⟨er4, es2⟩ := h3
  rw [es2] at G
  have hv := hv r4 er4
  obtain ⟨i5, hv⟩ := hv
  refine g_if_ne (tgt := 15) hx hb i5 dX6_nodeAt_5 (by decide) (fun c6 => ?_) (fun c6 => ?_)
  · have hv := hv.1 c6
    refine lv_aload_n hx hb dX6_nodeAt_15 rfl (lv_at hl 0 rfl) ?_
    obtain ⟨p7, hv⟩ := hv
    refine g_callVv (rest := []) hx hb hml hts hown hNw hA G [] (c_X6_refresh l w σ _ p7) sh_0 rfl wm_335 wm_336 wm_337 wm_2 wm_338 hd_X6_refresh ⟨rfl, rfl, Nat.le_of_ble_eq_true rfl, Nat.le_of_ble_eq_true rfl⟩ rfl hl.1 (Nat.le_of_ble_eq_true rfl) rfl dX6_nodeAt_16 ⟨Nat.zero_le _, Nat.zero_le _⟩ (fun s8 H locs h9 G => ?_)
    have hv := hv s8 h9
    refine lv_aload_n hx hb dX6_nodeAt_19 rfl (lv_at hl 0 rfl) ?_
    refine g_getR hx hb hts hown 5 61 inlX6 G sh_0 rfl (by decide) rfl wm_32 dX6_nodeAt_20 ?_
    refine lv_iload_n hx hb dX6_nodeAt_23 rfl (lv_at hl 1 rfl) ?_
    obtain ⟨p10, hv⟩ := hv
    refine g_callVi (rest := []) hx hb hml hts hown hNw hA G [.int (iz x1)] (c_X3_innermostAt l w s8 _ x1 p10) sh_61 rfl wm_642 wm_643 wm_644 wm_31 wm_645 hd_X3_innermostAt ⟨rfl, rfl, Nat.le_of_ble_eq_true rfl, Nat.le_of_ble_eq_true rfl⟩ rfl hl.1 (Nat.le_of_ble_eq_true rfl) rfl dX6_nodeAt_24 ⟨Nat.zero_le _, Nat.zero_le _⟩ (fun r13 s11 H locs h12 G => ?_)
    obtain ⟨er13, es11⟩ := h12
    rw [es11] at G
    have hv := hv r13 er13
    exact g_iret hx hb hr hlk hz G hv dX6_nodeAt_27
  · have hv := hv.2 c6
    refine lv_aload_n hx hb dX6_nodeAt_8 rfl (lv_at hl 0 rfl) ?_
    refine lv_bipush (v := iz (-2)) hx hb dX6_nodeAt_9 (by decide +kernel) ?_
    obtain ⟨p14, hv⟩ := hv
    refine g_callVi (rest := []) hx hb hml hts hown hNw hA G [.int (iz (-2))] (c_X6_fail l w σ _ (-2) p14) sh_0 rfl wm_129 wm_130 wm_131 wm_2 wm_132 hd_X6_fail ⟨rfl, rfl, Nat.le_of_ble_eq_true rfl, Nat.le_of_ble_eq_true rfl⟩ rfl hl.1 (Nat.le_of_ble_eq_true rfl) rfl dX6_nodeAt_11 ⟨Nat.zero_le _, Nat.zero_le _⟩ (fun r17 s15 H locs h16 G => ?_)
    have hv := hv r17 h16.1 s15 h16.2
    exact g_iret hx hb hr hlk hz G hv dX6_nodeAt_14
abbrev rm_X3_topWater : Room := ({ frames := 0, cells := 0, slots := 0, locals := 0 } : Room)
theorem hd_X3_topWater : yX3_topWater.cls = RX3 ∧ yX3_topWater.cls ≠ "java/lang/invoke/MethodHandle" ∧ yX3_topWater.cls ≠ "java/lang/invoke/VarHandle" ∧ (parseMethodDescriptor yX3_topWater.desc).map (fun d => d.parameters.length) = some 0 := ⟨rfl, by decide +kernel, by decide +kernel, by decide +kernel⟩
set_option maxHeartbeats 4000000 in
set_option maxRecDepth 100000 in
theorem c_X3_topWater (l : Launch) (w : GW) (σ : St) (sz : Nat) (hp : pre_X3_topWater σ) : Met l yX3_topWater (Cond.code yX3_topWater cX3_topWater 1 (some .int) :: wsL_law) rm_X3_topWater (gPc w gSL σ sz [.ref (gad w 61)]) (gQi w gSL sz (post_X3_topWater σ)) 0 0 (gA w gSL.length sz) := by
  have hv : V_X3_topWater σ (post_X3_topWater σ) := v_X3_topWater σ hp
  refine g_met (by decide) [.ref (gad w 61)] (Nat.le_of_ble_eq_true rfl) ?_
  intro p e s m below meth c ls hz C0 hl G
  obtain ⟨hx, hb, hr, hml, hown, hts, hlk, hNw, hA⟩ := id C0
  have hown : s.vm.findClass RX3 = some m.cls := hown
  have hl : lv_has ls 1 [(0, .ref (gad w 61))] := hl
  refine lv_aload_n hx hb dX3_topWater_0 rfl (lv_at hl 0 rfl) ?_
  refine g_getI hx hb hts hown 13 inlX3 G sh_61 rfl (by decide) rfl wm_98 dX3_topWater_1 ?_
  exact g_iret hx hb hr hlk hz G hv dX3_topWater_4
abbrev rm_X6_waterLength : Room := ({ frames := 6, cells := 0, slots := 0, locals := 144 } : Room)
theorem hd_X6_waterLength : yX6_waterLength.cls = RX6 ∧ yX6_waterLength.cls ≠ "java/lang/invoke/MethodHandle" ∧ yX6_waterLength.cls ≠ "java/lang/invoke/VarHandle" ∧ (parseMethodDescriptor yX6_waterLength.desc).map (fun d => d.parameters.length) = some 0 := ⟨rfl, by decide +kernel, by decide +kernel, by decide +kernel⟩
set_option maxHeartbeats 4000000 in
set_option maxRecDepth 100000 in
theorem c_X6_waterLength (l : Launch) (w : GW) (σ : St) (sz : Nat) (hp : pre_X6_waterLength σ) : Met l yX6_waterLength (Cond.code yX6_waterLength cX6_waterLength 1 (some .int) :: wsL_law) rm_X6_waterLength (gPc w gSL σ sz [.ref (gad w 0)]) (gQi w gSL sz (post_X6_waterLength σ)) 0 0 (gA w gSL.length sz) := by
  have hv : V_X6_waterLength σ (post_X6_waterLength σ) := v_X6_waterLength σ hp
  refine g_met (by decide) [.ref (gad w 0)] (Nat.le_of_ble_eq_true rfl) ?_
  intro p e s m below meth c ls hz C0 hl G
  obtain ⟨hx, hb, hr, hml, hown, hts, hlk, hNw, hA⟩ := id C0
  have hown : s.vm.findClass RX6 = some m.cls := hown
  have hl : lv_has ls 1 [(0, .ref (gad w 0))] := hl
  refine lv_aload_n hx hb dX6_waterLength_0 rfl (lv_at hl 0 rfl) ?_
  obtain ⟨p1, hv⟩ := hv
  refine g_callVv (rest := []) hx hb hml hts hown hNw hA G [] (c_X6_refresh l w σ _ p1) sh_0 rfl wm_335 wm_336 wm_337 wm_2 wm_338 hd_X6_refresh ⟨rfl, rfl, Nat.le_of_ble_eq_true rfl, Nat.le_of_ble_eq_true rfl⟩ rfl hl.1 (Nat.le_of_ble_eq_true rfl) rfl dX6_waterLength_1 ⟨Nat.zero_le _, Nat.zero_le _⟩ (fun s2 H locs h3 G => ?_)
  have hv := hv s2 h3
  refine lv_aload_n hx hb dX6_waterLength_4 rfl (lv_at hl 0 rfl) ?_
  refine g_getR hx hb hts hown 5 61 inlX6 G sh_0 rfl (by decide) rfl wm_32 dX6_waterLength_5 ?_
  obtain ⟨p4, hv⟩ := hv
  refine g_callVi (rest := []) hx hb hml hts hown hNw hA G [] (c_X3_topWater l w s2 _ p4) sh_61 rfl wm_654 wm_655 wm_656 wm_31 wm_657 hd_X3_topWater ⟨rfl, rfl, Nat.le_of_ble_eq_true rfl, Nat.le_of_ble_eq_true rfl⟩ rfl hl.1 (Nat.le_of_ble_eq_true rfl) rfl dX6_waterLength_8 ⟨Nat.zero_le _, Nat.zero_le _⟩ (fun r7 s5 H locs h6 G => ?_)
  obtain ⟨er7, es5⟩ := h6
  rw [es5] at G
  have hv := hv r7 er7
  exact g_iret hx hb hr hlk hz G hv dX6_waterLength_11
abbrev rm_X3_longestTopWater : Room := ({ frames := 0, cells := 0, slots := 0, locals := 0 } : Room)
theorem hd_X3_longestTopWater : yX3_longestTopWater.cls = RX3 ∧ yX3_longestTopWater.cls ≠ "java/lang/invoke/MethodHandle" ∧ yX3_longestTopWater.cls ≠ "java/lang/invoke/VarHandle" ∧ (parseMethodDescriptor yX3_longestTopWater.desc).map (fun d => d.parameters.length) = some 0 := ⟨rfl, by decide +kernel, by decide +kernel, by decide +kernel⟩
set_option maxHeartbeats 4000000 in
set_option maxRecDepth 100000 in
theorem c_X3_longestTopWater (l : Launch) (w : GW) (σ : St) (sz : Nat) (hp : pre_X3_longestTopWater σ) : Met l yX3_longestTopWater (Cond.code yX3_longestTopWater cX3_longestTopWater 1 (some .int) :: wsL_law) rm_X3_longestTopWater (gPc w gSL σ sz [.ref (gad w 61)]) (gQi w gSL sz (post_X3_longestTopWater σ)) 0 0 (gA w gSL.length sz) := by
  have hv : V_X3_longestTopWater σ (post_X3_longestTopWater σ) := v_X3_longestTopWater σ hp
  refine g_met (by decide) [.ref (gad w 61)] (Nat.le_of_ble_eq_true rfl) ?_
  intro p e s m below meth c ls hz C0 hl G
  obtain ⟨hx, hb, hr, hml, hown, hts, hlk, hNw, hA⟩ := id C0
  have hown : s.vm.findClass RX3 = some m.cls := hown
  have hl : lv_has ls 1 [(0, .ref (gad w 61))] := hl
  refine lv_aload_n hx hb dX3_longestTopWater_0 rfl (lv_at hl 0 rfl) ?_
  refine g_getI hx hb hts hown 15 inlX3 G sh_61 rfl (by decide) rfl wm_100 dX3_longestTopWater_1 ?_
  exact g_iret hx hb hr hlk hz G hv dX3_longestTopWater_4
abbrev rm_X6_longestWater : Room := ({ frames := 6, cells := 0, slots := 0, locals := 144 } : Room)
theorem hd_X6_longestWater : yX6_longestWater.cls = RX6 ∧ yX6_longestWater.cls ≠ "java/lang/invoke/MethodHandle" ∧ yX6_longestWater.cls ≠ "java/lang/invoke/VarHandle" ∧ (parseMethodDescriptor yX6_longestWater.desc).map (fun d => d.parameters.length) = some 0 := ⟨rfl, by decide +kernel, by decide +kernel, by decide +kernel⟩
set_option maxHeartbeats 4000000 in
set_option maxRecDepth 100000 in
theorem c_X6_longestWater (l : Launch) (w : GW) (σ : St) (sz : Nat) (hp : pre_X6_longestWater σ) : Met l yX6_longestWater (Cond.code yX6_longestWater cX6_longestWater 1 (some .int) :: wsL_law) rm_X6_longestWater (gPc w gSL σ sz [.ref (gad w 0)]) (gQi w gSL sz (post_X6_longestWater σ)) 0 0 (gA w gSL.length sz) := by
  have hv : V_X6_longestWater σ (post_X6_longestWater σ) := v_X6_longestWater σ hp
  refine g_met (by decide) [.ref (gad w 0)] (Nat.le_of_ble_eq_true rfl) ?_
  intro p e s m below meth c ls hz C0 hl G
  obtain ⟨hx, hb, hr, hml, hown, hts, hlk, hNw, hA⟩ := id C0
  have hown : s.vm.findClass RX6 = some m.cls := hown
  have hl : lv_has ls 1 [(0, .ref (gad w 0))] := hl
  refine lv_aload_n hx hb dX6_longestWater_0 rfl (lv_at hl 0 rfl) ?_
  obtain ⟨p1, hv⟩ := hv
  refine g_callVv (rest := []) hx hb hml hts hown hNw hA G [] (c_X6_refresh l w σ _ p1) sh_0 rfl wm_335 wm_336 wm_337 wm_2 wm_338 hd_X6_refresh ⟨rfl, rfl, Nat.le_of_ble_eq_true rfl, Nat.le_of_ble_eq_true rfl⟩ rfl hl.1 (Nat.le_of_ble_eq_true rfl) rfl dX6_longestWater_1 ⟨Nat.zero_le _, Nat.zero_le _⟩ (fun s2 H locs h3 G => ?_)
  have hv := hv s2 h3
  refine lv_aload_n hx hb dX6_longestWater_4 rfl (lv_at hl 0 rfl) ?_
  refine g_getR hx hb hts hown 5 61 inlX6 G sh_0 rfl (by decide) rfl wm_32 dX6_longestWater_5 ?_
  obtain ⟨p4, hv⟩ := hv
  refine g_callVi (rest := []) hx hb hml hts hown hNw hA G [] (c_X3_longestTopWater l w s2 _ p4) sh_61 rfl wm_666 wm_667 wm_668 wm_31 wm_669 hd_X3_longestTopWater ⟨rfl, rfl, Nat.le_of_ble_eq_true rfl, Nat.le_of_ble_eq_true rfl⟩ rfl hl.1 (Nat.le_of_ble_eq_true rfl) rfl dX6_longestWater_8 ⟨Nat.zero_le _, Nat.zero_le _⟩ (fun r7 s5 H locs h6 G => ?_)
  obtain ⟨er7, es5⟩ := h6
  rw [es5] at G
  have hv := hv r7 er7
  exact g_iret hx hb hr hlk hz G hv dX6_longestWater_11
abbrev rm_X3_totalOf : Room := ({ frames := 1, cells := 0, slots := 0, locals := 21 } : Room)
theorem hd_X3_totalOf : yX3_totalOf.cls = RX3 ∧ yX3_totalOf.cls ≠ "java/lang/invoke/MethodHandle" ∧ yX3_totalOf.cls ≠ "java/lang/invoke/VarHandle" ∧ (parseMethodDescriptor yX3_totalOf.desc).map (fun d => d.parameters.length) = some 1 := ⟨rfl, by decide +kernel, by decide +kernel, by decide +kernel⟩
set_option maxHeartbeats 4000000 in
set_option maxRecDepth 100000 in
theorem lw_X3_totalOf_4 {p : Program} {l : Launch} {e : Env} {s : State} {m : MethodId} {args : Array Value} {below : List Frame} {meth : Method} {c : Code} {w : GW} {sz : Nat} (hz : s.heap.size = sz) (C0 : gC p s m args meth c cX3_totalOf (some .int) 4 yX3_totalOf.cls (gA w gSL.length sz)) (Q : Int → St → Prop) (y1 : Int) : ∀ (n : Nat) (y2 y3 : Int) (σ : St) (H : Heap) (locs : List Loc) (ls : Array Slot), L_X3_totalOf_4 Q y1 n y2 y3 σ → gS w gSL σ (gA w gSL.length sz) s s.heap H locs → lv_has ls 4 [(0, .ref (gad w 61)), (1, .int (iz y1)), (2, .int (iz y2)), (3, .int (iz y3))] → W p l e rm_X3_totalOf s m args below meth c H locs 0 0 (MQ below (gQi w gSL sz Q) args s 0 0 (gA w gSL.length sz)) (F0 m 4 ls []) := by
  obtain ⟨hx, hb, hr, hml, hown, hts, hlk, hNw, hA⟩ := id C0
  have hown : s.vm.findClass RX3 = some m.cls := hown
  intro n
  induction n with
  | zero => intro y2 y3 σ H locs ls hv; exact hv.elim
  | succ n ih =>
    intro y2 y3 σ H locs ls hv G hl
    refine lv_iload_n hx hb dX3_totalOf_4 rfl (lv_at hl 3 rfl) ?_
    refine lv_aload_n hx hb dX3_totalOf_5 rfl (lv_at hl 0 rfl) ?_
    refine g_getI hx hb hts hown 11 inlX3 G sh_61 rfl (by decide) rfl wm_96 dX3_totalOf_6 ?_
    obtain ⟨i1, hv⟩ := hv
    obtain ⟨i2, hv⟩ := hv
    refine g_icmp_ge (tgt := 33) hx hb i1 i2 dX3_totalOf_9 (by decide) (fun c3 => ?_) (fun c3 => ?_)
    · have hv := hv.1 c3
      refine lv_iload_n hx hb dX3_totalOf_33 rfl (lv_at hl 2 rfl) ?_
      exact g_iret hx hb hr hlk hz G hv dX3_totalOf_34
    · have hv := hv.2 c3
      refine lv_aload_n hx hb dX3_totalOf_12 rfl (lv_at hl 0 rfl) ?_
      refine g_getR hx hb hts hown 2 62 inlX3 G sh_61 rfl (by decide) rfl wm_87 dX3_totalOf_13 ?_
      refine lv_iload_n hx hb dX3_totalOf_16 rfl (lv_at hl 3 rfl) ?_
      obtain ⟨p4, hv⟩ := hv
      refine g_callVi (rest := []) hx hb hml hts hown hNw hA G [.int (iz y3)] (c_X4_get l w σ _ 62 100 ⟨sh_62, sh_63⟩ y3 p4) sh_62 rfl wm_415 wm_134 wm_135 wm_22 wm_136 hd_X4_get ⟨rfl, rfl, Nat.le_of_ble_eq_true rfl, Nat.le_of_ble_eq_true rfl⟩ rfl hl.1 (Nat.le_of_ble_eq_true rfl) rfl dX3_totalOf_17 ⟨Nat.zero_le _, Nat.zero_le _⟩ (fun r7 s5 H locs h6 G => ?_)
      obtain ⟨er7, es5⟩ := h6
      rw [es5] at G
      have hv := hv r7 er7
      refine lv_iload_n hx hb dX3_totalOf_20 rfl (lv_at hl 1 rfl) ?_
      obtain ⟨i8, hv⟩ := hv
      obtain ⟨i9, hv⟩ := hv
      refine g_icmp_ne (tgt := 27) hx hb i8 i9 dX3_totalOf_21 (by decide) (fun c10 => ?_) (fun c10 => ?_)
      · have hv := hv.1 c10
        refine g_iinc (k := 3) (x := y3) (n := 1) (lv' := [(3, .int (iz (y3 + 1))), (0, .ref (gad w 61)), (1, .int (iz y1)), (2, .int (iz y2))]) hx hb dX3_totalOf_27 hl rfl (by decide) rfl (fun ls hl => ?_)
        refine lv_goto (tgt := 4) hx hb dX3_totalOf_30 (by decide) ?_
        exact ih _ _ _ _ _ _ hv G (lv_sub hl [1, 2, 3, 0] rfl)
      · have hv := hv.2 c10
        refine g_iinc (k := 2) (x := y2) (n := 1) (lv' := [(2, .int (iz (y2 + 1))), (0, .ref (gad w 61)), (1, .int (iz y1)), (3, .int (iz y3))]) hx hb dX3_totalOf_24 hl rfl (by decide) rfl (fun ls hl => ?_)
        refine g_iinc (k := 3) (x := y3) (n := 1) (lv' := [(3, .int (iz (y3 + 1))), (2, .int (iz (y2 + 1))), (0, .ref (gad w 61)), (1, .int (iz y1))]) hx hb dX3_totalOf_27 hl rfl (by decide) rfl (fun ls hl => ?_)
        refine lv_goto (tgt := 4) hx hb dX3_totalOf_30 (by decide) ?_
        exact ih _ _ _ _ _ _ hv G (lv_sub hl [2, 3, 1, 0] rfl)
set_option maxHeartbeats 4000000 in
set_option maxRecDepth 100000 in
theorem c_X3_totalOf (l : Launch) (w : GW) (σ : St) (sz : Nat) (x1 : Int) (hp : pre_X3_totalOf x1 σ) : Met l yX3_totalOf (Cond.code yX3_totalOf cX3_totalOf 4 (some .int) :: wsL_law) rm_X3_totalOf (gPc w gSL σ sz [.ref (gad w 61), .int (iz x1)]) (gQi w gSL sz (post_X3_totalOf x1 σ)) 0 0 (gA w gSL.length sz) := by
  have hv : V_X3_totalOf x1 σ (post_X3_totalOf x1 σ) := v_X3_totalOf x1 σ hp
  refine g_met (by decide) [.ref (gad w 61), .int (iz x1)] (Nat.le_of_ble_eq_true rfl) ?_
  intro p e s m below meth c ls hz C0 hl G
  obtain ⟨hx, hb, hr, hml, hown, hts, hlk, hNw, hA⟩ := id C0
  have hown : s.vm.findClass RX3 = some m.cls := hown
  have hl : lv_has ls 4 [(0, .ref (gad w 61)), (1, .int (iz x1))] := hl
  refine lv_iconst (v := iz 0) hx hb dX3_totalOf_0 rfl ?_
  refine lv_istore_n (lv' := [(2, .int (iz 0)), (0, .ref (gad w 61)), (1, .int (iz x1))]) hx hb dX3_totalOf_1 rfl hl (by decide) rfl (fun ls hl => ?_)
  refine lv_iconst (v := iz 0) hx hb dX3_totalOf_2 rfl ?_
  refine lv_istore_n (lv' := [(3, .int (iz 0)), (2, .int (iz 0)), (0, .ref (gad w 61)), (1, .int (iz x1))]) hx hb dX3_totalOf_3 rfl hl (by decide) rfl (fun ls hl => ?_)
  obtain ⟨n_, hv⟩ := hv
  exact lw_X3_totalOf_4 (l := l) (p := p) (e := e) hz C0 _ x1 n_ _ _ _ _ _ _ hv G (lv_sub hl [2, 3, 1, 0] rfl)
abbrev rm_X6_countOf : Room := ({ frames := 6, cells := 0, slots := 0, locals := 144 } : Room)
theorem hd_X6_countOf : yX6_countOf.cls = RX6 ∧ yX6_countOf.cls ≠ "java/lang/invoke/MethodHandle" ∧ yX6_countOf.cls ≠ "java/lang/invoke/VarHandle" ∧ (parseMethodDescriptor yX6_countOf.desc).map (fun d => d.parameters.length) = some 1 := ⟨rfl, by decide +kernel, by decide +kernel, by decide +kernel⟩
set_option maxHeartbeats 4000000 in
set_option maxRecDepth 100000 in
theorem c_X6_countOf (l : Launch) (w : GW) (σ : St) (sz : Nat) (x1 : Int) (hp : pre_X6_countOf x1 σ) : Met l yX6_countOf (Cond.code yX6_countOf cX6_countOf 2 (some .int) :: wsL_law) rm_X6_countOf (gPc w gSL σ sz [.ref (gad w 0), .int (iz x1)]) (gQi w gSL sz (post_X6_countOf x1 σ)) 0 0 (gA w gSL.length sz) := by
  have hv : V_X6_countOf x1 σ (post_X6_countOf x1 σ) := v_X6_countOf x1 σ hp
  refine g_met (by decide) [.ref (gad w 0), .int (iz x1)] (Nat.le_of_ble_eq_true rfl) ?_
  intro p e s m below meth c ls hz C0 hl G
  obtain ⟨hx, hb, hr, hml, hown, hts, hlk, hNw, hA⟩ := id C0
  have hown : s.vm.findClass RX6 = some m.cls := hown
  have hl : lv_has ls 2 [(0, .ref (gad w 0)), (1, .int (iz x1))] := hl
  refine lv_iload_n hx hb dX6_countOf_0 rfl (lv_at hl 1 rfl) ?_
  obtain ⟨p1, hv⟩ := hv
  refine g_callSi (rest := []) hx hb hml hts hown hNw hA G [.int (iz x1)] (c_X6_isRule l w σ _ x1 p1) wm_264 wm_265 wm_2 wm_266 hd_X6_isRule ⟨rfl, rfl, Nat.le_of_ble_eq_true rfl, Nat.le_of_ble_eq_true rfl⟩ rfl hl.1 (Nat.le_of_ble_eq_true rfl) rfl dX6_countOf_1 ⟨Nat.zero_le _, Nat.zero_le _⟩ (fun r4 s2 H locs h3 G => ?_)
  obtain ⟨er4, es2⟩ := h3
  rw [es2] at G
  have hv := hv r4 er4
  obtain ⟨i5, hv⟩ := hv
  refine g_if_ne (tgt := 14) hx hb i5 dX6_countOf_4 (by decide) (fun c6 => ?_) (fun c6 => ?_)
  · have hv := hv.1 c6
    refine lv_aload_n hx hb dX6_countOf_14 rfl (lv_at hl 0 rfl) ?_
    obtain ⟨p7, hv⟩ := hv
    refine g_callVv (rest := []) hx hb hml hts hown hNw hA G [] (c_X6_refresh l w σ _ p7) sh_0 rfl wm_335 wm_336 wm_337 wm_2 wm_338 hd_X6_refresh ⟨rfl, rfl, Nat.le_of_ble_eq_true rfl, Nat.le_of_ble_eq_true rfl⟩ rfl hl.1 (Nat.le_of_ble_eq_true rfl) rfl dX6_countOf_15 ⟨Nat.zero_le _, Nat.zero_le _⟩ (fun s8 H locs h9 G => ?_)
    have hv := hv s8 h9
    refine lv_aload_n hx hb dX6_countOf_18 rfl (lv_at hl 0 rfl) ?_
    refine g_getR hx hb hts hown 5 61 inlX6 G sh_0 rfl (by decide) rfl wm_32 dX6_countOf_19 ?_
    refine lv_iload_n hx hb dX6_countOf_22 rfl (lv_at hl 1 rfl) ?_
    obtain ⟨p10, hv⟩ := hv
    refine g_callVi (rest := []) hx hb hml hts hown hNw hA G [.int (iz x1)] (c_X3_totalOf l w s8 _ x1 p10) sh_61 rfl wm_678 wm_679 wm_680 wm_31 wm_681 hd_X3_totalOf ⟨rfl, rfl, Nat.le_of_ble_eq_true rfl, Nat.le_of_ble_eq_true rfl⟩ rfl hl.1 (Nat.le_of_ble_eq_true rfl) rfl dX6_countOf_23 ⟨Nat.zero_le _, Nat.zero_le _⟩ (fun r13 s11 H locs h12 G => ?_)
    obtain ⟨er13, es11⟩ := h12
    rw [es11] at G
    have hv := hv r13 er13
    exact g_iret hx hb hr hlk hz G hv dX6_countOf_26
  · have hv := hv.2 c6
    refine lv_aload_n hx hb dX6_countOf_7 rfl (lv_at hl 0 rfl) ?_
    refine lv_bipush (v := iz (-2)) hx hb dX6_countOf_8 (by decide +kernel) ?_
    obtain ⟨p14, hv⟩ := hv
    refine g_callVi (rest := []) hx hb hml hts hown hNw hA G [.int (iz (-2))] (c_X6_fail l w σ _ (-2) p14) sh_0 rfl wm_129 wm_130 wm_131 wm_2 wm_132 hd_X6_fail ⟨rfl, rfl, Nat.le_of_ble_eq_true rfl, Nat.le_of_ble_eq_true rfl⟩ rfl hl.1 (Nat.le_of_ble_eq_true rfl) rfl dX6_countOf_10 ⟨Nat.zero_le _, Nat.zero_le _⟩ (fun r17 s15 H locs h16 G => ?_)
    have hv := hv r17 h16.1 s15 h16.2
    exact g_iret hx hb hr hlk hz G hv dX6_countOf_13
abbrev rm_X1_savedCount : Room := ({ frames := 0, cells := 0, slots := 0, locals := 0 } : Room)
theorem hd_X1_savedCount : yX1_savedCount.cls = RX1 ∧ yX1_savedCount.cls ≠ "java/lang/invoke/MethodHandle" ∧ yX1_savedCount.cls ≠ "java/lang/invoke/VarHandle" ∧ (parseMethodDescriptor yX1_savedCount.desc).map (fun d => d.parameters.length) = some 0 := ⟨rfl, by decide +kernel, by decide +kernel, by decide +kernel⟩
set_option maxHeartbeats 4000000 in
set_option maxRecDepth 100000 in
theorem c_X1_savedCount (l : Launch) (w : GW) (σ : St) (sz : Nat) (hp : pre_X1_savedCount σ) : Met l yX1_savedCount (Cond.code yX1_savedCount cX1_savedCount 1 (some .int) :: wsL_law) rm_X1_savedCount (gPc w gSL σ sz [.ref (gad w 10)]) (gQi w gSL sz (post_X1_savedCount σ)) 0 0 (gA w gSL.length sz) := by
  have hv : V_X1_savedCount σ (post_X1_savedCount σ) := v_X1_savedCount σ hp
  refine g_met (by decide) [.ref (gad w 10)] (Nat.le_of_ble_eq_true rfl) ?_
  intro p e s m below meth c ls hz C0 hl G
  obtain ⟨hx, hb, hr, hml, hown, hts, hlk, hNw, hA⟩ := id C0
  have hown : s.vm.findClass RX1 = some m.cls := hown
  have hl : lv_has ls 1 [(0, .ref (gad w 10))] := hl
  refine lv_aload_n hx hb dX1_savedCount_0 rfl (lv_at hl 0 rfl) ?_
  refine g_getI hx hb hts hown 2 inlX1 G sh_10 rfl (by decide) rfl wm_61 dX1_savedCount_1 ?_
  exact g_iret hx hb hr hlk hz G hv dX1_savedCount_4
abbrev rm_X1_restore : Room := ({ frames := 3, cells := 0, slots := 0, locals := 57 } : Room)
theorem hd_X1_restore : yX1_restore.cls = RX1 ∧ yX1_restore.cls ≠ "java/lang/invoke/MethodHandle" ∧ yX1_restore.cls ≠ "java/lang/invoke/VarHandle" ∧ (parseMethodDescriptor yX1_restore.desc).map (fun d => d.parameters.length) = some 1 := ⟨rfl, by decide +kernel, by decide +kernel, by decide +kernel⟩
set_option maxHeartbeats 4000000 in
set_option maxRecDepth 100000 in
theorem c_X1_restore (l : Launch) (w : GW) (σ : St) (sz : Nat) (hp : pre_X1_restore σ) : Met l yX1_restore (Cond.code yX1_restore cX1_restore 2 none :: wsL_law) rm_X1_restore (gPc w gSL σ sz [.ref (gad w 10), .ref (gad w 1)]) (gQv w gSL sz (post_X1_restore σ)) 0 0 (gA w gSL.length sz) := by
  have hv : V_X1_restore σ (post_X1_restore σ) := v_X1_restore σ hp
  refine g_met (by decide) [.ref (gad w 10), .ref (gad w 1)] (Nat.le_of_ble_eq_true rfl) ?_
  intro p e s m below meth c ls hz C0 hl G
  obtain ⟨hx, hb, hr, hml, hown, hts, hlk, hNw, hA⟩ := id C0
  have hown : s.vm.findClass RX1 = some m.cls := hown
  have hl : lv_has ls 2 [(0, .ref (gad w 10)), (1, .ref (gad w 1))] := hl
  refine lv_aload_n hx hb dX1_restore_0 rfl (lv_at hl 0 rfl) ?_
  refine lv_aload_n hx hb dX1_restore_1 rfl (lv_at hl 0 rfl) ?_
  refine g_getI hx hb hts hown 1 inlX1 G sh_10 rfl (by decide) rfl wm_60 dX1_restore_2 ?_
  obtain ⟨i1, hv⟩ := hv
  refine g_if_le (tgt := 17) hx hb i1 dX1_restore_5 (by decide) (fun c2 => ?_) (fun c2 => ?_)
  · have hv := hv.1 c2
    refine lv_iconst (v := iz 3) hx hb dX1_restore_17 rfl ?_
    refine g_putI hx hb hts hown 1 inlX1 tyX1 tyX1_ok nmX1 G sh_10 rfl (by decide) rfl wm_60 rfl rfl rfl dX1_restore_18 (fun s3 es3 H locs G => ?_)
    have hv := hv s3 es3
    refine lv_aload_n hx hb dX1_restore_21 rfl (lv_at hl 1 rfl) ?_
    refine lv_aload_n hx hb dX1_restore_22 rfl (lv_at hl 0 rfl) ?_
    refine lv_aload_n hx hb dX1_restore_23 rfl (lv_at hl 0 rfl) ?_
    refine g_getI hx hb hts hown 1 inlX1 G sh_10 rfl (by decide) rfl wm_60 dX1_restore_24 ?_
    obtain ⟨p4, hv⟩ := hv
    refine g_callVr (rest := [.ref (gad w 1)]) hx hb hml hts hown hNw hA G [.int (iz (s3 10 1))] (c_X1_slotAt l w s3 _ (s3 10 1) p4) sh_10 rfl wm_153 wm_154 wm_155 wm_18 wm_156 hd_X1_slotAt ⟨rfl, rfl, Nat.le_of_ble_eq_true rfl, Nat.le_of_ble_eq_true rfl⟩ rfl hl.1 (Nat.le_of_ble_eq_true rfl) rfl dX1_restore_27 ⟨Nat.zero_le _, Nat.zero_le _⟩ (fun q7 s5 H locs h6 G => ?_)
    obtain ⟨eq7, es5⟩ := h6
    rw [es5] at G
    obtain ⟨hiq7, hv⟩ := hv q7 eq7
    obtain ⟨p8, hv⟩ := hv
    refine g_callVv (rest := []) hx hb hml hts hown hNw hA G [.ref (gad w q7)] (c_X5_copyFrom l w s3 _ 1 q7 st_1 hiq7 p8) sh_1 rfl wm_157 wm_158 wm_159 wm_14 wm_160 hd_X5_copyFrom ⟨rfl, rfl, Nat.le_of_ble_eq_true rfl, Nat.le_of_ble_eq_true rfl⟩ rfl hl.1 (Nat.le_of_ble_eq_true rfl) rfl dX1_restore_30 ⟨Nat.zero_le _, Nat.zero_le _⟩ (fun s9 H locs h10 G => ?_)
    have hv := hv s9 h10
    refine lv_aload_n hx hb dX1_restore_33 rfl (lv_at hl 0 rfl) ?_
    refine lv_aload_n hx hb dX1_restore_34 rfl (lv_at hl 0 rfl) ?_
    refine g_getI hx hb hts hown 2 inlX1 G sh_10 rfl (by decide) rfl wm_61 dX1_restore_35 ?_
    refine lv_iconst (v := iz 1) hx hb dX1_restore_38 rfl ?_
    refine g_isub hx hb dX1_restore_39 ?_
    refine lv_iconst (v := iz 0) hx hb dX1_restore_40 rfl ?_
    obtain ⟨i11, hv⟩ := hv
    refine g_max hx hb (hml.trans hl.1.symm) hts hown wm_698 wm_400 wm_151 wm_401 (Nat.le_of_ble_eq_true rfl) (Nat.le_of_ble_eq_true rfl) (Nat.zero_le _) (Nat.zero_le _) i11 ⟨by decide, by decide⟩ dX1_restore_41 (fun r12 er12 => ?_)
    have hv := hv r12 er12
    refine g_putI hx hb hts hown 2 inlX1 tyX1 tyX1_ok nmX1 G sh_10 rfl (by decide) rfl wm_61 rfl rfl rfl dX1_restore_44 (fun s13 es13 H locs G => ?_)
    have hv := hv s13 es13
    exact g_vret hx hb hr hlk hz G hv dX1_restore_47
  · have hv := hv.2 c2
    refine lv_aload_n hx hb dX1_restore_8 rfl (lv_at hl 0 rfl) ?_
    refine g_getI hx hb hts hown 1 inlX1 G sh_10 rfl (by decide) rfl wm_60 dX1_restore_9 ?_
    refine lv_iconst (v := iz 1) hx hb dX1_restore_12 rfl ?_
    refine g_isub hx hb dX1_restore_13 ?_
    refine lv_goto (tgt := 18) hx hb dX1_restore_14 (by decide) ?_
    refine g_putI hx hb hts hown 1 inlX1 tyX1 tyX1_ok nmX1 G sh_10 rfl (by decide) rfl wm_60 rfl rfl rfl dX1_restore_18 (fun s14 es14 H locs G => ?_)
    have hv := hv s14 es14
    refine lv_aload_n hx hb dX1_restore_21 rfl (lv_at hl 1 rfl) ?_
    refine lv_aload_n hx hb dX1_restore_22 rfl (lv_at hl 0 rfl) ?_
    refine lv_aload_n hx hb dX1_restore_23 rfl (lv_at hl 0 rfl) ?_
    refine g_getI hx hb hts hown 1 inlX1 G sh_10 rfl (by decide) rfl wm_60 dX1_restore_24 ?_
    obtain ⟨p15, hv⟩ := hv
    refine g_callVr (rest := [.ref (gad w 1)]) hx hb hml hts hown hNw hA G [.int (iz (s14 10 1))] (c_X1_slotAt l w s14 _ (s14 10 1) p15) sh_10 rfl wm_153 wm_154 wm_155 wm_18 wm_156 hd_X1_slotAt ⟨rfl, rfl, Nat.le_of_ble_eq_true rfl, Nat.le_of_ble_eq_true rfl⟩ rfl hl.1 (Nat.le_of_ble_eq_true rfl) rfl dX1_restore_27 ⟨Nat.zero_le _, Nat.zero_le _⟩ (fun q18 s16 H locs h17 G => ?_)
    obtain ⟨eq18, es16⟩ := h17
    rw [es16] at G
    obtain ⟨hiq18, hv⟩ := hv q18 eq18
    obtain ⟨p19, hv⟩ := hv
    refine g_callVv (rest := []) hx hb hml hts hown hNw hA G [.ref (gad w q18)] (c_X5_copyFrom l w s14 _ 1 q18 st_1 hiq18 p19) sh_1 rfl wm_157 wm_158 wm_159 wm_14 wm_160 hd_X5_copyFrom ⟨rfl, rfl, Nat.le_of_ble_eq_true rfl, Nat.le_of_ble_eq_true rfl⟩ rfl hl.1 (Nat.le_of_ble_eq_true rfl) rfl dX1_restore_30 ⟨Nat.zero_le _, Nat.zero_le _⟩ (fun s20 H locs h21 G => ?_)
    have hv := hv s20 h21
    refine lv_aload_n hx hb dX1_restore_33 rfl (lv_at hl 0 rfl) ?_
    refine lv_aload_n hx hb dX1_restore_34 rfl (lv_at hl 0 rfl) ?_
    refine g_getI hx hb hts hown 2 inlX1 G sh_10 rfl (by decide) rfl wm_61 dX1_restore_35 ?_
    refine lv_iconst (v := iz 1) hx hb dX1_restore_38 rfl ?_
    refine g_isub hx hb dX1_restore_39 ?_
    refine lv_iconst (v := iz 0) hx hb dX1_restore_40 rfl ?_
    obtain ⟨i22, hv⟩ := hv
    refine g_max hx hb (hml.trans hl.1.symm) hts hown wm_698 wm_400 wm_151 wm_401 (Nat.le_of_ble_eq_true rfl) (Nat.le_of_ble_eq_true rfl) (Nat.zero_le _) (Nat.zero_le _) i22 ⟨by decide, by decide⟩ dX1_restore_41 (fun r23 er23 => ?_)
    have hv := hv r23 er23
    refine g_putI hx hb hts hown 2 inlX1 tyX1 tyX1_ok nmX1 G sh_10 rfl (by decide) rfl wm_61 rfl rfl rfl dX1_restore_44 (fun s24 es24 H locs G => ?_)
    have hv := hv s24 es24
    exact g_vret hx hb hr hlk hz G hv dX1_restore_47
abbrev rm_X6_undo : Room := ({ frames := 4, cells := 0, slots := 0, locals := 78 } : Room)
theorem hd_X6_undo : yX6_undo.cls = RX6 ∧ yX6_undo.cls ≠ "java/lang/invoke/MethodHandle" ∧ yX6_undo.cls ≠ "java/lang/invoke/VarHandle" ∧ (parseMethodDescriptor yX6_undo.desc).map (fun d => d.parameters.length) = some 0 := ⟨rfl, by decide +kernel, by decide +kernel, by decide +kernel⟩
set_option maxHeartbeats 4000000 in
set_option maxRecDepth 100000 in
theorem c_X6_undo (l : Launch) (w : GW) (σ : St) (sz : Nat) (hp : pre_X6_undo σ) : Met l yX6_undo (Cond.code yX6_undo cX6_undo 1 (some .int) :: wsL_law) rm_X6_undo (gPc w gSL σ sz [.ref (gad w 0)]) (gQi w gSL sz (post_X6_undo σ)) 0 0 (gA w gSL.length sz) := by
  have hv : V_X6_undo σ (post_X6_undo σ) := v_X6_undo σ hp
  refine g_met (by decide) [.ref (gad w 0)] (Nat.le_of_ble_eq_true rfl) ?_
  intro p e s m below meth c ls hz C0 hl G
  obtain ⟨hx, hb, hr, hml, hown, hts, hlk, hNw, hA⟩ := id C0
  have hown : s.vm.findClass RX6 = some m.cls := hown
  have hl : lv_has ls 1 [(0, .ref (gad w 0))] := hl
  refine lv_aload_n hx hb dX6_undo_0 rfl (lv_at hl 0 rfl) ?_
  refine g_getR hx hb hts hown 1 10 inlX6 G sh_0 rfl (by decide) rfl wm_19 dX6_undo_1 ?_
  obtain ⟨p1, hv⟩ := hv
  refine g_callVi (rest := []) hx hb hml hts hown hNw hA G [] (c_X1_savedCount l w σ _ p1) sh_10 rfl wm_690 wm_691 wm_692 wm_18 wm_693 hd_X1_savedCount ⟨rfl, rfl, Nat.le_of_ble_eq_true rfl, Nat.le_of_ble_eq_true rfl⟩ rfl hl.1 (Nat.le_of_ble_eq_true rfl) rfl dX6_undo_4 ⟨Nat.zero_le _, Nat.zero_le _⟩ (fun r4 s2 H locs h3 G => ?_)
  obtain ⟨er4, es2⟩ := h3
  rw [es2] at G
  have hv := hv r4 er4
  obtain ⟨i5, hv⟩ := hv
  refine g_if_ne (tgt := 17) hx hb i5 dX6_undo_7 (by decide) (fun c6 => ?_) (fun c6 => ?_)
  · have hv := hv.1 c6
    refine lv_aload_n hx hb dX6_undo_17 rfl (lv_at hl 0 rfl) ?_
    refine g_getR hx hb hts hown 1 10 inlX6 G sh_0 rfl (by decide) rfl wm_19 dX6_undo_18 ?_
    refine lv_aload_n hx hb dX6_undo_21 rfl (lv_at hl 0 rfl) ?_
    refine g_getR hx hb hts hown 0 1 inlX6 G sh_0 rfl (by decide) rfl wm_15 dX6_undo_22 ?_
    obtain ⟨p7, hv⟩ := hv
    refine g_callVv (rest := []) hx hb hml hts hown hNw hA G [.ref (gad w 1)] (c_X1_restore l w σ _ p7) sh_10 rfl wm_694 wm_695 wm_696 wm_18 wm_697 hd_X1_restore ⟨rfl, rfl, Nat.le_of_ble_eq_true rfl, Nat.le_of_ble_eq_true rfl⟩ rfl hl.1 (Nat.le_of_ble_eq_true rfl) rfl dX6_undo_25 ⟨Nat.zero_le _, Nat.zero_le _⟩ (fun s8 H locs h9 G => ?_)
    have hv := hv s8 h9
    refine lv_aload_n hx hb dX6_undo_28 rfl (lv_at hl 0 rfl) ?_
    refine lv_iconst (v := iz 1) hx hb dX6_undo_29 rfl ?_
    refine g_putI hx hb hts hown 7 inlX6 tyX6 tyX6_ok nmX6 G sh_0 rfl (by decide) rfl wm_34 rfl rfl rfl dX6_undo_30 (fun s10 es10 H locs G => ?_)
    have hv := hv s10 es10
    refine lv_aload_n hx hb dX6_undo_33 rfl (lv_at hl 0 rfl) ?_
    refine g_getR hx hb hts hown 1 10 inlX6 G sh_0 rfl (by decide) rfl wm_19 dX6_undo_34 ?_
    obtain ⟨p11, hv⟩ := hv
    refine g_callVi (rest := []) hx hb hml hts hown hNw hA G [] (c_X1_savedCount l w s10 _ p11) sh_10 rfl wm_690 wm_691 wm_692 wm_18 wm_693 hd_X1_savedCount ⟨rfl, rfl, Nat.le_of_ble_eq_true rfl, Nat.le_of_ble_eq_true rfl⟩ rfl hl.1 (Nat.le_of_ble_eq_true rfl) rfl dX6_undo_37 ⟨Nat.zero_le _, Nat.zero_le _⟩ (fun r14 s12 H locs h13 G => ?_)
    obtain ⟨er14, es12⟩ := h13
    rw [es12] at G
    have hv := hv r14 er14
    exact g_iret hx hb hr hlk hz G hv dX6_undo_40
  · have hv := hv.2 c6
    refine lv_aload_n hx hb dX6_undo_10 rfl (lv_at hl 0 rfl) ?_
    refine lv_bipush (v := iz (-3)) hx hb dX6_undo_11 (by decide +kernel) ?_
    obtain ⟨p15, hv⟩ := hv
    refine g_callVi (rest := []) hx hb hml hts hown hNw hA G [.int (iz (-3))] (c_X6_fail l w σ _ (-3) p15) sh_0 rfl wm_129 wm_130 wm_131 wm_2 wm_132 hd_X6_fail ⟨rfl, rfl, Nat.le_of_ble_eq_true rfl, Nat.le_of_ble_eq_true rfl⟩ rfl hl.1 (Nat.le_of_ble_eq_true rfl) rfl dX6_undo_13 ⟨Nat.zero_le _, Nat.zero_le _⟩ (fun r18 s16 H locs h17 G => ?_)
    have hv := hv r18 h17.1 s16 h17.2
    exact g_iret hx hb hr hlk hz G hv dX6_undo_16
abbrev rm_X6_errorCount : Room := ({ frames := 2, cells := 0, slots := 0, locals := 44 } : Room)
theorem hd_X6_errorCount : yX6_errorCount.cls = RX6 ∧ yX6_errorCount.cls ≠ "java/lang/invoke/MethodHandle" ∧ yX6_errorCount.cls ≠ "java/lang/invoke/VarHandle" ∧ (parseMethodDescriptor yX6_errorCount.desc).map (fun d => d.parameters.length) = some 1 := ⟨rfl, by decide +kernel, by decide +kernel, by decide +kernel⟩
set_option maxHeartbeats 4000000 in
set_option maxRecDepth 100000 in
theorem c_X6_errorCount (l : Launch) (w : GW) (σ : St) (sz : Nat) (x1 : Int) (hp : pre_X6_errorCount x1 σ) : Met l yX6_errorCount (Cond.code yX6_errorCount cX6_errorCount 2 (some .int) :: wsL_law) rm_X6_errorCount (gPc w gSL σ sz [.ref (gad w 0), .int (iz x1)]) (gQi w gSL sz (post_X6_errorCount x1 σ)) 0 0 (gA w gSL.length sz) := by
  have hv : V_X6_errorCount x1 σ (post_X6_errorCount x1 σ) := v_X6_errorCount x1 σ hp
  refine g_met (by decide) [.ref (gad w 0), .int (iz x1)] (Nat.le_of_ble_eq_true rfl) ?_
  intro p e s m below meth c ls hz C0 hl G
  obtain ⟨hx, hb, hr, hml, hown, hts, hlk, hNw, hA⟩ := id C0
  have hown : s.vm.findClass RX6 = some m.cls := hown
  have hl : lv_has ls 2 [(0, .ref (gad w 0)), (1, .int (iz x1))] := hl
  refine lv_iload_n hx hb dX6_errorCount_0 rfl (lv_at hl 1 rfl) ?_
  obtain ⟨i1, hv⟩ := hv
  refine g_if_lt (tgt := 20) hx hb i1 dX6_errorCount_1 (by decide) (fun c2 => ?_) (fun c2 => ?_)
  · have hv := hv.1 c2
    refine lv_aload_n hx hb dX6_errorCount_20 rfl (lv_at hl 0 rfl) ?_
    refine lv_bipush (v := iz (-2)) hx hb dX6_errorCount_21 (by decide +kernel) ?_
    obtain ⟨p3, hv⟩ := hv
    refine g_callVi (rest := []) hx hb hml hts hown hNw hA G [.int (iz (-2))] (c_X6_fail l w σ _ (-2) p3) sh_0 rfl wm_129 wm_130 wm_131 wm_2 wm_132 hd_X6_fail ⟨rfl, rfl, Nat.le_of_ble_eq_true rfl, Nat.le_of_ble_eq_true rfl⟩ rfl hl.1 (Nat.le_of_ble_eq_true rfl) rfl dX6_errorCount_23 ⟨Nat.zero_le _, Nat.zero_le _⟩ (fun r6 s4 H locs h5 G => ?_)
    have hv := hv r6 h5.1 s4 h5.2
    exact g_iret hx hb hr hlk hz G hv dX6_errorCount_26
  · have hv := hv.2 c2
    refine lv_iload_n hx hb dX6_errorCount_4 rfl (lv_at hl 1 rfl) ?_
    refine lv_iconst (v := iz 3) hx hb dX6_errorCount_5 rfl ?_
    refine g_icmp_ge (tgt := 20) hx hb i1 ⟨by decide, by decide⟩ dX6_errorCount_6 (by decide) (fun c7 => ?_) (fun c7 => ?_)
    · have hv := hv.1 c7
      refine lv_aload_n hx hb dX6_errorCount_20 rfl (lv_at hl 0 rfl) ?_
      refine lv_bipush (v := iz (-2)) hx hb dX6_errorCount_21 (by decide +kernel) ?_
      obtain ⟨p8, hv⟩ := hv
      refine g_callVi (rest := []) hx hb hml hts hown hNw hA G [.int (iz (-2))] (c_X6_fail l w σ _ (-2) p8) sh_0 rfl wm_129 wm_130 wm_131 wm_2 wm_132 hd_X6_fail ⟨rfl, rfl, Nat.le_of_ble_eq_true rfl, Nat.le_of_ble_eq_true rfl⟩ rfl hl.1 (Nat.le_of_ble_eq_true rfl) rfl dX6_errorCount_23 ⟨Nat.zero_le _, Nat.zero_le _⟩ (fun r11 s9 H locs h10 G => ?_)
      have hv := hv r11 h10.1 s9 h10.2
      exact g_iret hx hb hr hlk hz G hv dX6_errorCount_26
    · have hv := hv.2 c7
      refine lv_aload_n hx hb dX6_errorCount_9 rfl (lv_at hl 0 rfl) ?_
      refine g_getR hx hb hts hown 3 50 inlX6 G sh_0 rfl (by decide) rfl wm_24 dX6_errorCount_10 ?_
      refine lv_iload_n hx hb dX6_errorCount_13 rfl (lv_at hl 1 rfl) ?_
      obtain ⟨p12, hv⟩ := hv
      refine g_callVi (rest := []) hx hb hml hts hown hNw hA G [.int (iz x1)] (c_X4_get l w σ _ 50 3 ⟨sh_50, sh_51⟩ x1 p12) sh_50 rfl wm_133 wm_134 wm_135 wm_22 wm_136 hd_X4_get ⟨rfl, rfl, Nat.le_of_ble_eq_true rfl, Nat.le_of_ble_eq_true rfl⟩ rfl hl.1 (Nat.le_of_ble_eq_true rfl) rfl dX6_errorCount_14 ⟨Nat.zero_le _, Nat.zero_le _⟩ (fun r15 s13 H locs h14 G => ?_)
      obtain ⟨er15, es13⟩ := h14
      rw [es13] at G
      have hv := hv r15 er15
      refine lv_goto (tgt := 26) hx hb dX6_errorCount_17 (by decide) ?_
      exact g_iret hx hb hr hlk hz G hv dX6_errorCount_26
abbrev rm_X6_mix : Room := ({ frames := 0, cells := 0, slots := 0, locals := 0 } : Room)
theorem hd_X6_mix : yX6_mix.cls ≠ "java/lang/invoke/MethodHandle" ∧ yX6_mix.cls ≠ "java/lang/invoke/VarHandle" ∧ (parseMethodDescriptor yX6_mix.desc).map (fun d => d.parameters.length) = some 2 := ⟨by decide +kernel, by decide +kernel, by decide +kernel⟩
set_option maxHeartbeats 4000000 in
set_option maxRecDepth 100000 in
theorem c_X6_mix (l : Launch) (w : GW) (σ : St) (sz : Nat) (x0 x2 : Int) (hp : pre_X6_mix x0 x2 σ) : Met l yX6_mix (Cond.code yX6_mix cX6_mix 4 (some .long) :: wsL_law) rm_X6_mix (gPc w gSL σ sz [.long (lz x0), .long (lz x2)]) (gQl w gSL sz (post_X6_mix x0 x2 σ)) 0 0 (gA w gSL.length sz) := by
  have hv : V_X6_mix x0 x2 σ (post_X6_mix x0 x2 σ) := v_X6_mix x0 x2 σ hp
  refine g_met (by decide) [.long (lz x0), .long (lz x2)] (Nat.le_of_ble_eq_true rfl) ?_
  intro p e s m below meth c ls hz C0 hl G
  obtain ⟨hx, hb, hr, hml, hown, hts, hlk, hNw, hA⟩ := id C0
  have hown : s.vm.findClass RX6 = some m.cls := hown
  have hl : lv_has ls 4 [(0, .long (lz x0)), (2, .long (lz x2))] := hl
  refine lv_ldc2 (v := lz 31) hx hb hown (hts _ wm_723) dX6_mix_0 ?_
  refine lv_lload_n hx hb dX6_mix_3 rfl (lv_at hl 0 rfl) ?_
  refine g_lmul hx hb dX6_mix_4 ?_
  refine lv_lload_n hx hb dX6_mix_5 rfl (lv_at hl 1 rfl) ?_
  refine g_ladd hx hb dX6_mix_6 ?_
  exact g_lret hx hb hr hlk hz G hv dX6_mix_7
abbrev rm_X4_mixInto : Room := ({ frames := 1, cells := 0, slots := 0, locals := 23 } : Room)
theorem hd_X4_mixInto : yX4_mixInto.cls = RX4 ∧ yX4_mixInto.cls ≠ "java/lang/invoke/MethodHandle" ∧ yX4_mixInto.cls ≠ "java/lang/invoke/VarHandle" ∧ (parseMethodDescriptor yX4_mixInto.desc).map (fun d => d.parameters.length) = some 3 := ⟨rfl, by decide +kernel, by decide +kernel, by decide +kernel⟩
set_option maxHeartbeats 4000000 in
set_option maxRecDepth 100000 in
theorem lw_X4_mixInto_6 {p : Program} {l : Launch} {e : Env} {s : State} {m : MethodId} {args : Array Value} {below : List Frame} {meth : Method} {c : Code} {w : GW} {sz : Nat} (k nn : Nat) (hik : isRow k nn) (hz : s.heap.size = sz) (C0 : gC p s m args meth c cX4_mixInto (some .long) 8 yX4_mixInto.cls (gA w gSL.length sz)) (Q : Int → St → Prop) (y3 y4 : Int) : ∀ (n : Nat) (y5 y7 : Int) (σ : St) (H : Heap) (locs : List Loc) (ls : Array Slot), L_X4_mixInto_6 k nn Q y3 y4 n y5 y7 σ → gS w gSL σ (gA w gSL.length sz) s s.heap H locs → lv_has ls 8 [(0, .ref (gad w k)), (3, .int (iz y3)), (4, .int (iz y4)), (5, .long (lz y5)), (7, .int (iz y7))] → W p l e rm_X4_mixInto s m args below meth c H locs 0 0 (MQ below (gQl w gSL sz Q) args s 0 0 (gA w gSL.length sz)) (F0 m 6 ls []) := by
  obtain ⟨hx, hb, hr, hml, hown, hts, hlk, hNw, hA⟩ := id C0
  have hown : s.vm.findClass RX4 = some m.cls := hown
  intro n
  induction n with
  | zero => intro y5 y7 σ H locs ls hv; exact hv.elim
  | succ n ih =>
    intro y5 y7 σ H locs ls hv G hl
    refine lv_iload hx hb dX4_mixInto_6 (lv_at hl 4 rfl) ?_
    refine lv_iload hx hb dX4_mixInto_8 (lv_at hl 2 rfl) ?_
    obtain ⟨i1, hv⟩ := hv
    obtain ⟨i2, hv⟩ := hv
    refine g_icmp_ge (tgt := 35) hx hb i1 i2 dX4_mixInto_10 (by decide) (fun c3 => ?_) (fun c3 => ?_)
    · have hv := hv.1 c3
      refine lv_lload hx hb dX4_mixInto_35 (lv_at hl 3 rfl) ?_
      exact g_lret hx hb hr hlk hz G hv dX4_mixInto_37
    · have hv := hv.2 c3
      refine lv_lload hx hb dX4_mixInto_13 (lv_at hl 3 rfl) ?_
      refine lv_aload_n hx hb dX4_mixInto_15 rfl (lv_at hl 0 rfl) ?_
      refine lv_iload_n hx hb dX4_mixInto_16 rfl (lv_at hl 1 rfl) ?_
      refine lv_iload hx hb dX4_mixInto_17 (lv_at hl 4 rfl) ?_
      refine g_iadd hx hb dX4_mixInto_19 ?_
      obtain ⟨p4, hv⟩ := hv
      refine g_callVi (rest := [.long (lz y5)]) hx hb hml hts hown hNw hA G [.int (iz (y3 + y7))] (c_X4_get l w σ _ k nn hik (y3 + y7) p4) hik.1 rfl wm_720 wm_134 wm_135 wm_22 wm_136 hd_X4_get ⟨rfl, rfl, Nat.le_of_ble_eq_true rfl, Nat.le_of_ble_eq_true rfl⟩ rfl hl.1 (Nat.le_of_ble_eq_true rfl) rfl dX4_mixInto_20 ⟨Nat.zero_le _, Nat.zero_le _⟩ (fun r7 s5 H locs h6 G => ?_)
      obtain ⟨er7, es5⟩ := h6
      rw [es5] at G
      have hv := hv r7 er7
      obtain ⟨i8, hv⟩ := hv
      refine g_i2l hx hb i8 dX4_mixInto_23 ?_
      obtain ⟨p9, hv⟩ := hv
      refine g_callNl (host := "IslandGrammar") (rest := []) hx hb hml hts hown hNw hA G [.long (lz y5), .long (lz r7)] (c_X6_mix l w σ _ y5 r7 p9) (List.mem_of_getElem? (i := 6) rfl) wm_721 wm_2 wm_722 hd_X6_mix ⟨rfl, rfl, Nat.le_of_ble_eq_true rfl, Nat.le_of_ble_eq_true rfl⟩ rfl hl.1 (Nat.le_of_ble_eq_true rfl) rfl dX4_mixInto_24 ⟨Nat.zero_le _, Nat.zero_le _⟩ (fun r12 s10 H locs h11 G => ?_)
      obtain ⟨er12, es10⟩ := h11
      rw [es10] at G
      have hv := hv r12 er12
      refine lv_lstore (lv' := [(5, .long (lz r12)), (0, .ref (gad w k)), (3, .int (iz y3)), (4, .int (iz y4)), (7, .int (iz y7))]) hx hb dX4_mixInto_27 hl (by decide) rfl (fun ls hl => ?_)
      refine g_iinc (k := 4) (x := y7) (n := 1) (lv' := [(7, .int (iz (y7 + 1))), (5, .long (lz r12)), (0, .ref (gad w k)), (3, .int (iz y3)), (4, .int (iz y4))]) hx hb dX4_mixInto_29 hl rfl (by decide) rfl (fun ls hl => ?_)
      refine lv_goto (tgt := 6) hx hb dX4_mixInto_32 (by decide) ?_
      exact ih _ _ _ _ _ _ hv G (lv_sub hl [2, 3, 4, 1, 0] rfl)
set_option maxHeartbeats 4000000 in
set_option maxRecDepth 100000 in
theorem c_X4_mixInto (l : Launch) (w : GW) (σ : St) (sz : Nat) (k nn : Nat) (hik : isRow k nn) (x1 x3 x4 : Int) (hp : pre_X4_mixInto k nn x1 x3 x4 σ) : Met l yX4_mixInto (Cond.code yX4_mixInto cX4_mixInto 8 (some .long) :: wsL_law) rm_X4_mixInto (gPc w gSL σ sz [.ref (gad w k), .long (lz x1), .int (iz x3), .int (iz x4)]) (gQl w gSL sz (post_X4_mixInto k nn x1 x3 x4 σ)) 0 0 (gA w gSL.length sz) := by
  have hv : V_X4_mixInto k nn x1 x3 x4 σ (post_X4_mixInto k nn x1 x3 x4 σ) := v_X4_mixInto k nn hik x1 x3 x4 σ hp
  refine g_met (by decide) [.ref (gad w k), .long (lz x1), .int (iz x3), .int (iz x4)] (Nat.le_of_ble_eq_true rfl) ?_
  intro p e s m below meth c ls hz C0 hl G
  obtain ⟨hx, hb, hr, hml, hown, hts, hlk, hNw, hA⟩ := id C0
  have hown : s.vm.findClass RX4 = some m.cls := hown
  have hl : lv_has ls 8 [(0, .ref (gad w k)), (1, .long (lz x1)), (3, .int (iz x3)), (4, .int (iz x4))] := hl
  refine lv_lload_n hx hb dX4_mixInto_0 rfl (lv_at hl 1 rfl) ?_
  refine lv_lstore (lv' := [(5, .long (lz x1)), (0, .ref (gad w k)), (1, .long (lz x1)), (3, .int (iz x3)), (4, .int (iz x4))]) hx hb dX4_mixInto_1 hl (by decide) rfl (fun ls hl => ?_)
  refine lv_iconst (v := iz 0) hx hb dX4_mixInto_3 rfl ?_
  refine lv_istore (lv' := [(7, .int (iz 0)), (5, .long (lz x1)), (0, .ref (gad w k)), (1, .long (lz x1)), (3, .int (iz x3)), (4, .int (iz x4))]) hx hb dX4_mixInto_4 hl (by decide) rfl (fun ls hl => ?_)
  obtain ⟨n_, hv⟩ := hv
  exact lw_X4_mixInto_6 (l := l) (p := p) (e := e) k nn hik hz C0 _ x3 x4 n_ _ _ _ _ _ _ hv G (lv_sub hl [2, 4, 5, 1, 0] rfl)
abbrev rm_X5_mixInto : Room := ({ frames := 2, cells := 0, slots := 0, locals := 50 } : Room)
theorem hd_X5_mixInto : yX5_mixInto.cls = RX5 ∧ yX5_mixInto.cls ≠ "java/lang/invoke/MethodHandle" ∧ yX5_mixInto.cls ≠ "java/lang/invoke/VarHandle" ∧ (parseMethodDescriptor yX5_mixInto.desc).map (fun d => d.parameters.length) = some 1 := ⟨rfl, by decide +kernel, by decide +kernel, by decide +kernel⟩
set_option maxHeartbeats 4000000 in
set_option maxRecDepth 100000 in
theorem lw_X5_mixInto_25 {p : Program} {l : Launch} {e : Env} {s : State} {m : MethodId} {args : Array Value} {below : List Frame} {meth : Method} {c : Code} {w : GW} {sz : Nat} (hz : s.heap.size = sz) (C0 : gC p s m args meth c cX5_mixInto (some .long) 7 yX5_mixInto.cls (gA w gSL.length sz)) (Q : Int → St → Prop) : ∀ (n : Nat) (y3 y5 : Int) (σ : St) (H : Heap) (locs : List Loc) (ls : Array Slot), L_X5_mixInto_25 Q n y3 y5 σ → gS w gSL σ (gA w gSL.length sz) s s.heap H locs → lv_has ls 7 [(0, .ref (gad w 1)), (3, .long (lz y3)), (5, .int (iz y5))] → W p l e rm_X5_mixInto s m args below meth c H locs 0 0 (MQ below (gQl w gSL sz Q) args s 0 0 (gA w gSL.length sz)) (F0 m 25 ls []) := by
  obtain ⟨hx, hb, hr, hml, hown, hts, hlk, hNw, hA⟩ := id C0
  have hown : s.vm.findClass RX5 = some m.cls := hown
  intro n
  induction n with
  | zero => intro y3 y5 σ H locs ls hv; exact hv.elim
  | succ n ih =>
    intro y3 y5 σ H locs ls hv G hl
    refine lv_iload hx hb dX5_mixInto_25 (lv_at hl 2 rfl) ?_
    refine lv_bipush (v := iz 6) hx hb dX5_mixInto_27 (by decide +kernel) ?_
    obtain ⟨i10, hv⟩ := hv
    refine g_icmp_ge (tgt := 80) hx hb i10 ⟨by decide, by decide⟩ dX5_mixInto_29 (by decide) (fun c11 => ?_) (fun c11 => ?_)
    · have hv := hv.1 c11
      refine lv_lload_n hx hb dX5_mixInto_80 rfl (lv_at hl 1 rfl) ?_
      exact g_lret hx hb hr hlk hz G hv dX5_mixInto_81
    · have hv := hv.2 c11
      refine lv_aload_n hx hb dX5_mixInto_32 rfl (lv_at hl 0 rfl) ?_
      refine lv_iload hx hb dX5_mixInto_33 (lv_at hl 2 rfl) ?_
      obtain ⟨p12, hv⟩ := hv
      refine g_callVi (rest := []) hx hb hml hts hown hNw hA G [.int (iz y5)] (c_X5_patternSize l w σ _ y5 p12) sh_1 rfl wm_730 wm_292 wm_293 wm_14 wm_294 hd_X5_patternSize ⟨rfl, rfl, Nat.le_of_ble_eq_true rfl, Nat.le_of_ble_eq_true rfl⟩ rfl hl.1 (Nat.le_of_ble_eq_true rfl) rfl dX5_mixInto_35 ⟨Nat.zero_le _, Nat.zero_le _⟩ (fun r15 s13 H locs h14 G => ?_)
      obtain ⟨er15, es13⟩ := h14
      rw [es13] at G
      have hv := hv r15 er15
      refine lv_istore (lv' := [(6, .int (iz r15)), (0, .ref (gad w 1)), (3, .long (lz y3)), (5, .int (iz y5))]) hx hb dX5_mixInto_38 hl (by decide) rfl (fun ls hl => ?_)
      refine lv_aload_n hx hb dX5_mixInto_40 rfl (lv_at hl 1 rfl) ?_
      refine g_getR hx hb hts hown 2 6 inlX5 G sh_1 rfl (by decide) rfl wm_42 dX5_mixInto_41 ?_
      refine lv_lload_n hx hb dX5_mixInto_44 rfl (lv_at hl 2 rfl) ?_
      refine lv_iload hx hb dX5_mixInto_45 (lv_at hl 0 rfl) ?_
      obtain ⟨i16, hv⟩ := hv
      refine g_i2l hx hb i16 dX5_mixInto_47 ?_
      obtain ⟨p17, hv⟩ := hv
      refine g_callNl (host := "IslandGrammar") (rest := [.ref (gad w 6)]) hx hb hml hts hown hNw hA G [.long (lz y3), .long (lz r15)] (c_X6_mix l w σ _ y3 r15 p17) (List.mem_of_getElem? (i := 7) rfl) wm_721 wm_2 wm_722 hd_X6_mix ⟨rfl, rfl, Nat.le_of_ble_eq_true rfl, Nat.le_of_ble_eq_true rfl⟩ rfl hl.1 (Nat.le_of_ble_eq_true rfl) rfl dX5_mixInto_48 ⟨Nat.zero_le _, Nat.zero_le _⟩ (fun r20 s18 H locs h19 G => ?_)
      obtain ⟨er20, es18⟩ := h19
      rw [es18] at G
      have hv := hv r20 er20
      refine lv_iload hx hb dX5_mixInto_51 (lv_at hl 3 rfl) ?_
      refine lv_bipush (v := iz 8) hx hb dX5_mixInto_53 (by decide +kernel) ?_
      refine g_imul hx hb dX5_mixInto_55 ?_
      refine lv_iload hx hb dX5_mixInto_56 (lv_at hl 0 rfl) ?_
      obtain ⟨p21, hv⟩ := hv
      refine g_callVl (rest := []) hx hb hml hts hown hNw hA G [.long (lz r20), .int (iz (y5 * 8)), .int (iz r15)] (c_X4_mixInto l w σ _ 6 48 ⟨sh_6, sh_7⟩ r20 (y5 * 8) r15 p21) sh_6 rfl wm_729 wm_717 wm_718 wm_22 wm_719 hd_X4_mixInto ⟨rfl, rfl, Nat.le_of_ble_eq_true rfl, Nat.le_of_ble_eq_true rfl⟩ rfl hl.1 (Nat.le_of_ble_eq_true rfl) rfl dX5_mixInto_58 ⟨Nat.zero_le _, Nat.zero_le _⟩ (fun r24 s22 H locs h23 G => ?_)
      obtain ⟨er24, es22⟩ := h23
      rw [es22] at G
      have hv := hv r24 er24
      refine lv_lstore_n (lv' := [(3, .long (lz r24)), (6, .int (iz r15)), (0, .ref (gad w 1)), (5, .int (iz y5))]) hx hb dX5_mixInto_61 rfl hl (by decide) rfl (fun ls hl => ?_)
      refine lv_lload_n hx hb dX5_mixInto_62 rfl (lv_at hl 0 rfl) ?_
      refine lv_aload_n hx hb dX5_mixInto_63 rfl (lv_at hl 2 rfl) ?_
      refine lv_iload hx hb dX5_mixInto_64 (lv_at hl 3 rfl) ?_
      obtain ⟨p25, hv⟩ := hv
      refine g_callVi (rest := [.long (lz r24)]) hx hb hml hts hown hNw hA G [.int (iz y5)] (c_X5_stopOf l w σ _ y5 p25) sh_1 rfl wm_731 wm_304 wm_305 wm_14 wm_306 hd_X5_stopOf ⟨rfl, rfl, Nat.le_of_ble_eq_true rfl, Nat.le_of_ble_eq_true rfl⟩ rfl hl.1 (Nat.le_of_ble_eq_true rfl) rfl dX5_mixInto_66 ⟨Nat.zero_le _, Nat.zero_le _⟩ (fun r28 s26 H locs h27 G => ?_)
      obtain ⟨er28, es26⟩ := h27
      rw [es26] at G
      have hv := hv r28 er28
      obtain ⟨i29, hv⟩ := hv
      refine g_i2l hx hb i29 dX5_mixInto_69 ?_
      obtain ⟨p30, hv⟩ := hv
      refine g_callNl (host := "IslandGrammar") (rest := []) hx hb hml hts hown hNw hA G [.long (lz r24), .long (lz r28)] (c_X6_mix l w σ _ r24 r28 p30) (List.mem_of_getElem? (i := 7) rfl) wm_721 wm_2 wm_722 hd_X6_mix ⟨rfl, rfl, Nat.le_of_ble_eq_true rfl, Nat.le_of_ble_eq_true rfl⟩ rfl hl.1 (Nat.le_of_ble_eq_true rfl) rfl dX5_mixInto_70 ⟨Nat.zero_le _, Nat.zero_le _⟩ (fun r33 s31 H locs h32 G => ?_)
      obtain ⟨er33, es31⟩ := h32
      rw [es31] at G
      have hv := hv r33 er33
      refine lv_lstore_n (lv' := [(3, .long (lz r33)), (6, .int (iz r15)), (0, .ref (gad w 1)), (5, .int (iz y5))]) hx hb dX5_mixInto_73 rfl hl (by decide) rfl (fun ls hl => ?_)
      refine g_iinc (k := 3) (x := y5) (n := 1) (lv' := [(5, .int (iz (y5 + 1))), (3, .long (lz r33)), (6, .int (iz r15)), (0, .ref (gad w 1))]) hx hb dX5_mixInto_74 hl rfl (by decide) rfl (fun ls hl => ?_)
      refine lv_goto (tgt := 25) hx hb dX5_mixInto_77 (by decide) ?_
      exact ih _ _ _ _ _ _ hv G (lv_sub hl [3, 1, 0] rfl)
set_option maxHeartbeats 4000000 in
set_option maxRecDepth 100000 in
theorem c_X5_mixInto (l : Launch) (w : GW) (σ : St) (sz : Nat) (x1 : Int) (hp : pre_X5_mixInto x1 σ) : Met l yX5_mixInto (Cond.code yX5_mixInto cX5_mixInto 7 (some .long) :: wsL_law) rm_X5_mixInto (gPc w gSL σ sz [.ref (gad w 1), .long (lz x1)]) (gQl w gSL sz (post_X5_mixInto x1 σ)) 0 0 (gA w gSL.length sz) := by
  have hv : V_X5_mixInto x1 σ (post_X5_mixInto x1 σ) := v_X5_mixInto x1 σ hp
  refine g_met (by decide) [.ref (gad w 1), .long (lz x1)] (Nat.le_of_ble_eq_true rfl) ?_
  intro p e s m below meth c ls hz C0 hl G
  obtain ⟨hx, hb, hr, hml, hown, hts, hlk, hNw, hA⟩ := id C0
  have hown : s.vm.findClass RX5 = some m.cls := hown
  have hl : lv_has ls 7 [(0, .ref (gad w 1)), (1, .long (lz x1))] := hl
  refine lv_aload_n hx hb dX5_mixInto_0 rfl (lv_at hl 0 rfl) ?_
  refine g_getR hx hb hts hown 0 2 inlX5 G sh_1 rfl (by decide) rfl wm_40 dX5_mixInto_1 ?_
  refine lv_lload_n hx hb dX5_mixInto_4 rfl (lv_at hl 1 rfl) ?_
  refine lv_aload_n hx hb dX5_mixInto_5 rfl (lv_at hl 0 rfl) ?_
  refine g_getI hx hb hts hown 4 inlX5 G sh_1 rfl (by decide) rfl wm_44 dX5_mixInto_6 ?_
  obtain ⟨i1, hv⟩ := hv
  refine g_i2l hx hb i1 dX5_mixInto_9 ?_
  obtain ⟨p2, hv⟩ := hv
  refine g_callNl (host := "IslandGrammar") (rest := [.ref (gad w 2)]) hx hb hml hts hown hNw hA G [.long (lz x1), .long (lz (σ 1 4))] (c_X6_mix l w σ _ x1 (σ 1 4) p2) (List.mem_of_getElem? (i := 7) rfl) wm_721 wm_2 wm_722 hd_X6_mix ⟨rfl, rfl, Nat.le_of_ble_eq_true rfl, Nat.le_of_ble_eq_true rfl⟩ rfl hl.1 (Nat.le_of_ble_eq_true rfl) rfl dX5_mixInto_10 ⟨Nat.zero_le _, Nat.zero_le _⟩ (fun r5 s3 H locs h4 G => ?_)
  obtain ⟨er5, es3⟩ := h4
  rw [es3] at G
  have hv := hv r5 er5
  refine lv_iconst (v := iz 0) hx hb dX5_mixInto_13 rfl ?_
  refine lv_aload_n hx hb dX5_mixInto_14 rfl (lv_at hl 0 rfl) ?_
  refine g_getI hx hb hts hown 4 inlX5 G sh_1 rfl (by decide) rfl wm_44 dX5_mixInto_15 ?_
  obtain ⟨p6, hv⟩ := hv
  refine g_callVl (rest := []) hx hb hml hts hown hNw hA G [.long (lz r5), .int (iz 0), .int (iz (σ 1 4))] (c_X4_mixInto l w σ _ 2 100 ⟨sh_2, sh_3⟩ r5 0 (σ 1 4) p6) sh_2 rfl wm_729 wm_717 wm_718 wm_22 wm_719 hd_X4_mixInto ⟨rfl, rfl, Nat.le_of_ble_eq_true rfl, Nat.le_of_ble_eq_true rfl⟩ rfl hl.1 (Nat.le_of_ble_eq_true rfl) rfl dX5_mixInto_18 ⟨Nat.zero_le _, Nat.zero_le _⟩ (fun r9 s7 H locs h8 G => ?_)
  obtain ⟨er9, es7⟩ := h8
  rw [es7] at G
  have hv := hv r9 er9
  refine lv_lstore_n (lv' := [(3, .long (lz r9)), (0, .ref (gad w 1)), (1, .long (lz x1))]) hx hb dX5_mixInto_21 rfl hl (by decide) rfl (fun ls hl => ?_)
  refine lv_iconst (v := iz 0) hx hb dX5_mixInto_22 rfl ?_
  refine lv_istore (lv' := [(5, .int (iz 0)), (3, .long (lz r9)), (0, .ref (gad w 1)), (1, .long (lz x1))]) hx hb dX5_mixInto_23 hl (by decide) rfl (fun ls hl => ?_)
  obtain ⟨n_, hv⟩ := hv
  exact lw_X5_mixInto_25 (l := l) (p := p) (e := e) hz C0 _ n_ _ _ _ _ _ _ hv G (lv_sub hl [2, 1, 0] rfl)
