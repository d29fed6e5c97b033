abbrev rm_X6_define : Room := ({ frames := 5, cells := 0, slots := 0, locals := 98 } : Room)
theorem hd_X6_define : yX6_define.cls = RX6 ∧ yX6_define.cls ≠ "java/lang/invoke/MethodHandle" ∧ yX6_define.cls ≠ "java/lang/invoke/VarHandle" ∧ (parseMethodDescriptor yX6_define.desc).map (fun d => d.parameters.length) = some 1 := ⟨rfl, by decide +kernel, by decide +kernel, by decide +kernel⟩
set_option maxHeartbeats 4000000 in
set_option maxRecDepth 100000 in
theorem c_X6_define (l : Launch) (w : GW) (σ : St) (sz : Nat) (x1 : Int) (hp : pre_X6_define x1 σ) : Met l yX6_define (Cond.code yX6_define cX6_define 2 (some .int) :: wsL_law) rm_X6_define (gPc w gSL σ sz [.ref (gad w 0), .int (iz x1)]) (gQi w gSL sz (post_X6_define x1 σ)) 0 0 (gA w gSL.length sz) := by
  have hv : V_X6_define x1 σ (post_X6_define x1 σ) := v_X6_define x1 σ hp
  refine g_met (by decide) [.ref (gad w 0), .int (iz x1)] (Nat.le_of_ble_eq_true rfl) ?_
  intro p e s m below meth c ls hz C0 hl G
  obtain ⟨hx, hb, hr, hml, hown, hts, hlk, hNw, hA⟩ := id C0
  have hown : s.vm.findClass RX6 = some m.cls := hown
  have hl : lv_has ls 2 [(0, .ref (gad w 0)), (1, .int (iz x1))] := hl
  refine lv_iload_n hx hb dX6_define_0 rfl (lv_at hl 1 rfl) ?_
  obtain ⟨p1, hv⟩ := hv
  refine g_callSi (rest := []) hx hb hml hts hown hNw hA G [.int (iz x1)] (c_X6_isRule l w σ _ x1 p1) wm_264 wm_265 wm_2 wm_266 hd_X6_isRule ⟨rfl, rfl, Nat.le_of_ble_eq_true rfl, Nat.le_of_ble_eq_true rfl⟩ rfl hl.1 (Nat.le_of_ble_eq_true rfl) rfl dX6_define_1 ⟨Nat.zero_le _, Nat.zero_le _⟩ (fun r4 s2 H locs h3 G => ?_)
  obtain ⟨er4, es2⟩ := h3
  rw [es2] at G
  have hv := hv r4 er4
  obtain ⟨i5, hv⟩ := hv
  refine g_if_ne (tgt := 14) hx hb i5 dX6_define_4 (by decide) (fun c6 => ?_) (fun c6 => ?_)
  · have hv := hv.1 c6
    refine lv_aload_n hx hb dX6_define_14 rfl (lv_at hl 0 rfl) ?_
    refine g_getI hx hb hts hown 6 inlX6 G sh_0 rfl (by decide) rfl wm_33 dX6_define_15 ?_
    obtain ⟨i7, hv⟩ := hv
    refine g_if_eq (tgt := 35) hx hb i7 dX6_define_18 (by decide) (fun c8 => ?_) (fun c8 => ?_)
    · have hv := hv.1 c8
      refine lv_aload_n hx hb dX6_define_35 rfl (lv_at hl 0 rfl) ?_
      refine lv_bipush (v := iz (-3)) hx hb dX6_define_36 (by decide +kernel) ?_
      obtain ⟨p9, hv⟩ := hv
      refine g_callVi (rest := []) hx hb hml hts hown hNw hA G [.int (iz (-3))] (c_X6_fail l w σ _ (-3) p9) sh_0 rfl wm_129 wm_130 wm_131 wm_2 wm_132 hd_X6_fail ⟨rfl, rfl, Nat.le_of_ble_eq_true rfl, Nat.le_of_ble_eq_true rfl⟩ rfl hl.1 (Nat.le_of_ble_eq_true rfl) rfl dX6_define_38 ⟨Nat.zero_le _, Nat.zero_le _⟩ (fun r12 s10 H locs h11 G => ?_)
      have hv := hv r12 h11.1 s10 h11.2
      exact g_iret hx hb hr hlk hz G hv dX6_define_41
    · have hv := hv.2 c8
      refine lv_aload_n hx hb dX6_define_21 rfl (lv_at hl 0 rfl) ?_
      refine g_getR hx hb hts hown 2 48 inlX6 G sh_0 rfl (by decide) rfl wm_23 dX6_define_22 ?_
      refine lv_iconst (v := iz 0) hx hb dX6_define_25 rfl ?_
      obtain ⟨p13, hv⟩ := hv
      refine g_callVi (rest := []) hx hb hml hts hown hNw hA G [.int (iz 0)] (c_X4_get l w σ _ 48 8 ⟨sh_48, sh_49⟩ 0 p13) sh_48 rfl wm_133 wm_134 wm_135 wm_22 wm_136 hd_X4_get ⟨rfl, rfl, Nat.le_of_ble_eq_true rfl, Nat.le_of_ble_eq_true rfl⟩ rfl hl.1 (Nat.le_of_ble_eq_true rfl) rfl dX6_define_26 ⟨Nat.zero_le _, Nat.zero_le _⟩ (fun r16 s14 H locs h15 G => ?_)
      obtain ⟨er16, es14⟩ := h15
      rw [es14] at G
      have hv := hv r16 er16
      obtain ⟨p17, hv⟩ := hv
      refine g_callSi (rest := []) hx hb hml hts hown hNw hA G [.int (iz r16)] (c_X6_canStartPattern l w σ _ r16 p17) wm_267 wm_268 wm_2 wm_269 hd_X6_canStartPattern ⟨rfl, rfl, Nat.le_of_ble_eq_true rfl, Nat.le_of_ble_eq_true rfl⟩ rfl hl.1 (Nat.le_of_ble_eq_true rfl) rfl dX6_define_29 ⟨Nat.zero_le _, Nat.zero_le _⟩ (fun r20 s18 H locs h19 G => ?_)
      obtain ⟨er20, es18⟩ := h19
      rw [es18] at G
      have hv := hv r20 er20
      obtain ⟨i21, hv⟩ := hv
      refine g_if_ne (tgt := 42) hx hb i21 dX6_define_32 (by decide) (fun c22 => ?_) (fun c22 => ?_)
      · have hv := hv.1 c22
        refine lv_aload_n hx hb dX6_define_42 rfl (lv_at hl 0 rfl) ?_
        obtain ⟨p23, hv⟩ := hv
        refine g_callVv (rest := []) hx hb hml hts hown hNw hA G [] (c_X6_prepareChange l w σ _ p23) sh_0 rfl wm_141 wm_142 wm_143 wm_2 wm_144 hd_X6_prepareChange ⟨rfl, rfl, Nat.le_of_ble_eq_true rfl, Nat.le_of_ble_eq_true rfl⟩ rfl hl.1 (Nat.le_of_ble_eq_true rfl) rfl dX6_define_43 ⟨Nat.zero_le _, Nat.zero_le _⟩ (fun s24 H locs h25 G => ?_)
        have hv := hv s24 h25
        refine lv_aload_n hx hb dX6_define_46 rfl (lv_at hl 0 rfl) ?_
        refine g_getR hx hb hts hown 0 1 inlX6 G sh_0 rfl (by decide) rfl wm_15 dX6_define_47 ?_
        refine lv_iload_n hx hb dX6_define_50 rfl (lv_at hl 1 rfl) ?_
        refine lv_aload_n hx hb dX6_define_51 rfl (lv_at hl 0 rfl) ?_
        refine g_getR hx hb hts hown 2 48 inlX6 G sh_0 rfl (by decide) rfl wm_23 dX6_define_52 ?_
        refine lv_aload_n hx hb dX6_define_55 rfl (lv_at hl 0 rfl) ?_
        refine g_getI hx hb hts hown 6 inlX6 G sh_0 rfl (by decide) rfl wm_33 dX6_define_56 ?_
        obtain ⟨p26, hv⟩ := hv
        refine g_callVv (rest := []) hx hb hml hts hown hNw hA G [.int (iz x1), .ref (gad w 48), .int (iz (s24 0 6))] (c_X5_setPattern l w s24 _ x1 (s24 0 6) p26) sh_1 rfl wm_273 wm_274 wm_275 wm_14 wm_276 hd_X5_setPattern ⟨rfl, rfl, Nat.le_of_ble_eq_true rfl, Nat.le_of_ble_eq_true rfl⟩ rfl hl.1 (Nat.le_of_ble_eq_true rfl) rfl dX6_define_59 ⟨Nat.zero_le _, Nat.zero_le _⟩ (fun s27 H locs h28 G => ?_)
        have hv := hv s27 h28
        refine lv_aload_n hx hb dX6_define_62 rfl (lv_at hl 0 rfl) ?_
        refine g_getI hx hb hts hown 6 inlX6 G sh_0 rfl (by decide) rfl wm_33 dX6_define_63 ?_
        exact g_iret hx hb hr hlk hz G hv dX6_define_66
      · have hv := hv.2 c22
        refine lv_aload_n hx hb dX6_define_35 rfl (lv_at hl 0 rfl) ?_
        refine lv_bipush (v := iz (-3)) hx hb dX6_define_36 (by decide +kernel) ?_
        obtain ⟨p29, hv⟩ := hv
        refine g_callVi (rest := []) hx hb hml hts hown hNw hA G [.int (iz (-3))] (c_X6_fail l w σ _ (-3) p29) sh_0 rfl wm_129 wm_130 wm_131 wm_2 wm_132 hd_X6_fail ⟨rfl, rfl, Nat.le_of_ble_eq_true rfl, Nat.le_of_ble_eq_true rfl⟩ rfl hl.1 (Nat.le_of_ble_eq_true rfl) rfl dX6_define_38 ⟨Nat.zero_le _, Nat.zero_le _⟩ (fun r32 s30 H locs h31 G => ?_)
        have hv := hv r32 h31.1 s30 h31.2
        exact g_iret hx hb hr hlk hz G hv dX6_define_41
  · have hv := hv.2 c6
    refine lv_aload_n hx hb dX6_define_7 rfl (lv_at hl 0 rfl) ?_
    refine lv_bipush (v := iz (-2)) hx hb dX6_define_8 (by decide +kernel) ?_
    obtain ⟨p33, hv⟩ := hv
    refine g_callVi (rest := []) hx hb hml hts hown hNw hA G [.int (iz (-2))] (c_X6_fail l w σ _ (-2) p33) sh_0 rfl wm_129 wm_130 wm_131 wm_2 wm_132 hd_X6_fail ⟨rfl, rfl, Nat.le_of_ble_eq_true rfl, Nat.le_of_ble_eq_true rfl⟩ rfl hl.1 (Nat.le_of_ble_eq_true rfl) rfl dX6_define_10 ⟨Nat.zero_le _, Nat.zero_le _⟩ (fun r36 s34 H locs h35 G => ?_)
    have hv := hv r36 h35.1 s34 h35.2
    exact g_iret hx hb hr hlk hz G hv dX6_define_13
abbrev rm_X5_patternSize : Room := ({ frames := 1, cells := 0, slots := 0, locals := 21 } : Room)
theorem hd_X5_patternSize : yX5_patternSize.cls = RX5 ∧ yX5_patternSize.cls ≠ "java/lang/invoke/MethodHandle" ∧ yX5_patternSize.cls ≠ "java/lang/invoke/VarHandle" ∧ (parseMethodDescriptor yX5_patternSize.desc).map (fun d => d.parameters.length) = some 1 := ⟨rfl, by decide +kernel, by decide +kernel, by decide +kernel⟩
set_option maxHeartbeats 4000000 in
set_option maxRecDepth 100000 in
theorem c_X5_patternSize (l : Launch) (w : GW) (σ : St) (sz : Nat) (x1 : Int) (hp : pre_X5_patternSize x1 σ) : Met l yX5_patternSize (Cond.code yX5_patternSize cX5_patternSize 2 (some .int) :: wsL_law) rm_X5_patternSize (gPc w gSL σ sz [.ref (gad w 1), .int (iz x1)]) (gQi w gSL sz (post_X5_patternSize x1 σ)) 0 0 (gA w gSL.length sz) := by
  have hv : V_X5_patternSize x1 σ (post_X5_patternSize x1 σ) := v_X5_patternSize x1 σ hp
  refine g_met (by decide) [.ref (gad w 1), .int (iz x1)] (Nat.le_of_ble_eq_true rfl) ?_
  intro p e s m below meth c ls hz C0 hl G
  obtain ⟨hx, hb, hr, hml, hown, hts, hlk, hNw, hA⟩ := id C0
  have hown : s.vm.findClass RX5 = some m.cls := hown
  have hl : lv_has ls 2 [(0, .ref (gad w 1)), (1, .int (iz x1))] := hl
  refine lv_aload_n hx hb dX5_patternSize_0 rfl (lv_at hl 0 rfl) ?_
  refine g_getR hx hb hts hown 1 4 inlX5 G sh_1 rfl (by decide) rfl wm_41 dX5_patternSize_1 ?_
  refine lv_iload_n hx hb dX5_patternSize_4 rfl (lv_at hl 1 rfl) ?_
  obtain ⟨p1, hv⟩ := hv
  refine g_callVi (rest := []) hx hb hml hts hown hNw hA G [.int (iz x1)] (c_X4_get l w σ _ 4 6 ⟨sh_4, sh_5⟩ x1 p1) sh_4 rfl wm_170 wm_134 wm_135 wm_22 wm_136 hd_X4_get ⟨rfl, rfl, Nat.le_of_ble_eq_true rfl, Nat.le_of_ble_eq_true rfl⟩ rfl hl.1 (Nat.le_of_ble_eq_true rfl) rfl dX5_patternSize_5 ⟨Nat.zero_le _, Nat.zero_le _⟩ (fun r4 s2 H locs h3 G => ?_)
  obtain ⟨er4, es2⟩ := h3
  rw [es2] at G
  have hv := hv r4 er4
  exact g_iret hx hb hr hlk hz G hv dX5_patternSize_8
abbrev rm_X6_undefine : Room := ({ frames := 5, cells := 0, slots := 0, locals := 98 } : Room)
theorem hd_X6_undefine : yX6_undefine.cls = RX6 ∧ yX6_undefine.cls ≠ "java/lang/invoke/MethodHandle" ∧ yX6_undefine.cls ≠ "java/lang/invoke/VarHandle" ∧ (parseMethodDescriptor yX6_undefine.desc).map (fun d => d.parameters.length) = some 1 := ⟨rfl, by decide +kernel, by decide +kernel, by decide +kernel⟩
set_option maxHeartbeats 4000000 in
set_option maxRecDepth 100000 in
theorem c_X6_undefine (l : Launch) (w : GW) (σ : St) (sz : Nat) (x1 : Int) (hp : pre_X6_undefine x1 σ) : Met l yX6_undefine (Cond.code yX6_undefine cX6_undefine 3 (some .int) :: wsL_law) rm_X6_undefine (gPc w gSL σ sz [.ref (gad w 0), .int (iz x1)]) (gQi w gSL sz (post_X6_undefine x1 σ)) 0 0 (gA w gSL.length sz) := by
  have hv : V_X6_undefine x1 σ (post_X6_undefine x1 σ) := v_X6_undefine x1 σ hp
  refine g_met (by decide) [.ref (gad w 0), .int (iz x1)] (Nat.le_of_ble_eq_true rfl) ?_
  intro p e s m below meth c ls hz C0 hl G
  obtain ⟨hx, hb, hr, hml, hown, hts, hlk, hNw, hA⟩ := id C0
  have hown : s.vm.findClass RX6 = some m.cls := hown
  have hl : lv_has ls 3 [(0, .ref (gad w 0)), (1, .int (iz x1))] := hl
  refine lv_iload_n hx hb dX6_undefine_0 rfl (lv_at hl 1 rfl) ?_
  obtain ⟨p1, hv⟩ := hv
  refine g_callSi (rest := []) hx hb hml hts hown hNw hA G [.int (iz x1)] (c_X6_isRule l w σ _ x1 p1) wm_264 wm_265 wm_2 wm_266 hd_X6_isRule ⟨rfl, rfl, Nat.le_of_ble_eq_true rfl, Nat.le_of_ble_eq_true rfl⟩ rfl hl.1 (Nat.le_of_ble_eq_true rfl) rfl dX6_undefine_1 ⟨Nat.zero_le _, Nat.zero_le _⟩ (fun r4 s2 H locs h3 G => ?_)
  obtain ⟨er4, es2⟩ := h3
  rw [es2] at G
  have hv := hv r4 er4
  obtain ⟨i5, hv⟩ := hv
  refine g_if_ne (tgt := 14) hx hb i5 dX6_undefine_4 (by decide) (fun c6 => ?_) (fun c6 => ?_)
  · have hv := hv.1 c6
    refine lv_aload_n hx hb dX6_undefine_14 rfl (lv_at hl 0 rfl) ?_
    refine g_getR hx hb hts hown 0 1 inlX6 G sh_0 rfl (by decide) rfl wm_15 dX6_undefine_15 ?_
    refine lv_iload_n hx hb dX6_undefine_18 rfl (lv_at hl 1 rfl) ?_
    obtain ⟨p7, hv⟩ := hv
    refine g_callVi (rest := []) hx hb hml hts hown hNw hA G [.int (iz x1)] (c_X5_patternSize l w σ _ x1 p7) sh_1 rfl wm_291 wm_292 wm_293 wm_14 wm_294 hd_X5_patternSize ⟨rfl, rfl, Nat.le_of_ble_eq_true rfl, Nat.le_of_ble_eq_true rfl⟩ rfl hl.1 (Nat.le_of_ble_eq_true rfl) rfl dX6_undefine_19 ⟨Nat.zero_le _, Nat.zero_le _⟩ (fun r10 s8 H locs h9 G => ?_)
    obtain ⟨er10, es8⟩ := h9
    rw [es8] at G
    have hv := hv r10 er10
    refine lv_istore_n (lv' := [(2, .int (iz r10)), (0, .ref (gad w 0)), (1, .int (iz x1))]) hx hb dX6_undefine_22 rfl hl (by decide) rfl (fun ls hl => ?_)
    refine lv_aload_n hx hb dX6_undefine_23 rfl (lv_at hl 1 rfl) ?_
    obtain ⟨p11, hv⟩ := hv
    refine g_callVv (rest := []) hx hb hml hts hown hNw hA G [] (c_X6_prepareChange l w σ _ p11) sh_0 rfl wm_141 wm_142 wm_143 wm_2 wm_144 hd_X6_prepareChange ⟨rfl, rfl, Nat.le_of_ble_eq_true rfl, Nat.le_of_ble_eq_true rfl⟩ rfl hl.1 (Nat.le_of_ble_eq_true rfl) rfl dX6_undefine_24 ⟨Nat.zero_le _, Nat.zero_le _⟩ (fun s12 H locs h13 G => ?_)
    have hv := hv s12 h13
    refine lv_aload_n hx hb dX6_undefine_27 rfl (lv_at hl 1 rfl) ?_
    refine g_getR hx hb hts hown 0 1 inlX6 G sh_0 rfl (by decide) rfl wm_15 dX6_undefine_28 ?_
    refine lv_iload_n hx hb dX6_undefine_31 rfl (lv_at hl 2 rfl) ?_
    refine lv_aload_n hx hb dX6_undefine_32 rfl (lv_at hl 1 rfl) ?_
    refine g_getR hx hb hts hown 2 48 inlX6 G sh_0 rfl (by decide) rfl wm_23 dX6_undefine_33 ?_
    refine lv_iconst (v := iz 0) hx hb dX6_undefine_36 rfl ?_
    obtain ⟨p14, hv⟩ := hv
    refine g_callVv (rest := []) hx hb hml hts hown hNw hA G [.int (iz x1), .ref (gad w 48), .int (iz 0)] (c_X5_setPattern l w s12 _ x1 0 p14) sh_1 rfl wm_273 wm_274 wm_275 wm_14 wm_276 hd_X5_setPattern ⟨rfl, rfl, Nat.le_of_ble_eq_true rfl, Nat.le_of_ble_eq_true rfl⟩ rfl hl.1 (Nat.le_of_ble_eq_true rfl) rfl dX6_undefine_37 ⟨Nat.zero_le _, Nat.zero_le _⟩ (fun s15 H locs h16 G => ?_)
    have hv := hv s15 h16
    refine lv_iload_n hx hb dX6_undefine_40 rfl (lv_at hl 0 rfl) ?_
    exact g_iret hx hb hr hlk hz G hv dX6_undefine_41
  · have hv := hv.2 c6
    refine lv_aload_n hx hb dX6_undefine_7 rfl (lv_at hl 0 rfl) ?_
    refine lv_bipush (v := iz (-2)) hx hb dX6_undefine_8 (by decide +kernel) ?_
    obtain ⟨p17, hv⟩ := hv
    refine g_callVi (rest := []) hx hb hml hts hown hNw hA G [.int (iz (-2))] (c_X6_fail l w σ _ (-2) p17) sh_0 rfl wm_129 wm_130 wm_131 wm_2 wm_132 hd_X6_fail ⟨rfl, rfl, Nat.le_of_ble_eq_true rfl, Nat.le_of_ble_eq_true rfl⟩ rfl hl.1 (Nat.le_of_ble_eq_true rfl) rfl dX6_undefine_10 ⟨Nat.zero_le _, Nat.zero_le _⟩ (fun r20 s18 H locs h19 G => ?_)
    have hv := hv r20 h19.1 s18 h19.2
    exact g_iret hx hb hr hlk hz G hv dX6_undefine_13
abbrev rm_X5_stopOf : Room := ({ frames := 1, cells := 0, slots := 0, locals := 21 } : Room)
theorem hd_X5_stopOf : yX5_stopOf.cls = RX5 ∧ yX5_stopOf.cls ≠ "java/lang/invoke/MethodHandle" ∧ yX5_stopOf.cls ≠ "java/lang/invoke/VarHandle" ∧ (parseMethodDescriptor yX5_stopOf.desc).map (fun d => d.parameters.length) = some 1 := ⟨rfl, by decide +kernel, by decide +kernel, by decide +kernel⟩
set_option maxHeartbeats 4000000 in
set_option maxRecDepth 100000 in
theorem c_X5_stopOf (l : Launch) (w : GW) (σ : St) (sz : Nat) (x1 : Int) (hp : pre_X5_stopOf x1 σ) : Met l yX5_stopOf (Cond.code yX5_stopOf cX5_stopOf 2 (some .int) :: wsL_law) rm_X5_stopOf (gPc w gSL σ sz [.ref (gad w 1), .int (iz x1)]) (gQi w gSL sz (post_X5_stopOf x1 σ)) 0 0 (gA w gSL.length sz) := by
  have hv : V_X5_stopOf x1 σ (post_X5_stopOf x1 σ) := v_X5_stopOf x1 σ hp
  refine g_met (by decide) [.ref (gad w 1), .int (iz x1)] (Nat.le_of_ble_eq_true rfl) ?_
  intro p e s m below meth c ls hz C0 hl G
  obtain ⟨hx, hb, hr, hml, hown, hts, hlk, hNw, hA⟩ := id C0
  have hown : s.vm.findClass RX5 = some m.cls := hown
  have hl : lv_has ls 2 [(0, .ref (gad w 1)), (1, .int (iz x1))] := hl
  refine lv_aload_n hx hb dX5_stopOf_0 rfl (lv_at hl 0 rfl) ?_
  refine g_getR hx hb hts hown 3 8 inlX5 G sh_1 rfl (by decide) rfl wm_43 dX5_stopOf_1 ?_
  refine lv_iload_n hx hb dX5_stopOf_4 rfl (lv_at hl 1 rfl) ?_
  obtain ⟨p1, hv⟩ := hv
  refine g_callVi (rest := []) hx hb hml hts hown hNw hA G [.int (iz x1)] (c_X4_get l w σ _ 8 6 ⟨sh_8, sh_9⟩ x1 p1) sh_8 rfl wm_170 wm_134 wm_135 wm_22 wm_136 hd_X4_get ⟨rfl, rfl, Nat.le_of_ble_eq_true rfl, Nat.le_of_ble_eq_true rfl⟩ rfl hl.1 (Nat.le_of_ble_eq_true rfl) rfl dX5_stopOf_5 ⟨Nat.zero_le _, Nat.zero_le _⟩ (fun r4 s2 H locs h3 G => ?_)
  obtain ⟨er4, es2⟩ := h3
  rw [es2] at G
  have hv := hv r4 er4
  exact g_iret hx hb hr hlk hz G hv dX5_stopOf_8
abbrev rm_X5_putStop : Room := ({ frames := 1, cells := 0, slots := 0, locals := 22 } : Room)
theorem hd_X5_putStop : yX5_putStop.cls = RX5 ∧ yX5_putStop.cls ≠ "java/lang/invoke/MethodHandle" ∧ yX5_putStop.cls ≠ "java/lang/invoke/VarHandle" ∧ (parseMethodDescriptor yX5_putStop.desc).map (fun d => d.parameters.length) = some 2 := ⟨rfl, by decide +kernel, by decide +kernel, by decide +kernel⟩
set_option maxHeartbeats 4000000 in
set_option maxRecDepth 100000 in
theorem c_X5_putStop (l : Launch) (w : GW) (σ : St) (sz : Nat) (x1 x2 : Int) (hp : pre_X5_putStop x1 x2 σ) : Met l yX5_putStop (Cond.code yX5_putStop cX5_putStop 3 none :: wsL_law) rm_X5_putStop (gPc w gSL σ sz [.ref (gad w 1), .int (iz x1), .int (iz x2)]) (gQv w gSL sz (post_X5_putStop x1 x2 σ)) 0 0 (gA w gSL.length sz) := by
  have hv : V_X5_putStop x1 x2 σ (post_X5_putStop x1 x2 σ) := v_X5_putStop x1 x2 σ hp
  refine g_met (by decide) [.ref (gad w 1), .int (iz x1), .int (iz x2)] (Nat.le_of_ble_eq_true rfl) ?_
  intro p e s m below meth c ls hz C0 hl G
  obtain ⟨hx, hb, hr, hml, hown, hts, hlk, hNw, hA⟩ := id C0
  have hown : s.vm.findClass RX5 = some m.cls := hown
  have hl : lv_has ls 3 [(0, .ref (gad w 1)), (1, .int (iz x1)), (2, .int (iz x2))] := hl
  refine lv_aload_n hx hb dX5_putStop_0 rfl (lv_at hl 0 rfl) ?_
  refine g_getR hx hb hts hown 3 8 inlX5 G sh_1 rfl (by decide) rfl wm_43 dX5_putStop_1 ?_
  refine lv_iload_n hx hb dX5_putStop_4 rfl (lv_at hl 1 rfl) ?_
  refine lv_iload_n hx hb dX5_putStop_5 rfl (lv_at hl 2 rfl) ?_
  obtain ⟨p1, hv⟩ := hv
  refine g_callVv (rest := []) hx hb hml hts hown hNw hA G [.int (iz x1), .int (iz x2)] (c_X4_set l w σ _ 8 6 ⟨sh_8, sh_9⟩ x1 x2 p1) sh_8 rfl wm_171 wm_138 wm_139 wm_22 wm_140 hd_X4_set ⟨rfl, rfl, Nat.le_of_ble_eq_true rfl, Nat.le_of_ble_eq_true rfl⟩ rfl hl.1 (Nat.le_of_ble_eq_true rfl) rfl dX5_putStop_6 ⟨Nat.zero_le _, Nat.zero_le _⟩ (fun s2 H locs h3 G => ?_)
  have hv := hv s2 h3
  exact g_vret hx hb hr hlk hz G hv dX5_putStop_9
abbrev rm_X6_setStop : Room := ({ frames := 5, cells := 0, slots := 0, locals := 98 } : Room)
theorem hd_X6_setStop : yX6_setStop.cls = RX6 ∧ yX6_setStop.cls ≠ "java/lang/invoke/MethodHandle" ∧ yX6_setStop.cls ≠ "java/lang/invoke/VarHandle" ∧ (parseMethodDescriptor yX6_setStop.desc).map (fun d => d.parameters.length) = some 2 := ⟨rfl, by decide +kernel, by decide +kernel, by decide +kernel⟩
set_option maxHeartbeats 4000000 in
set_option maxRecDepth 100000 in
theorem c_X6_setStop (l : Launch) (w : GW) (σ : St) (sz : Nat) (x1 x2 : Int) (hp : pre_X6_setStop x1 x2 σ) : Met l yX6_setStop (Cond.code yX6_setStop cX6_setStop 4 (some .int) :: wsL_law) rm_X6_setStop (gPc w gSL σ sz [.ref (gad w 0), .int (iz x1), .int (iz x2)]) (gQi w gSL sz (post_X6_setStop x1 x2 σ)) 0 0 (gA w gSL.length sz) := by
  have hv : V_X6_setStop x1 x2 σ (post_X6_setStop x1 x2 σ) := v_X6_setStop x1 x2 σ hp
  refine g_met (by decide) [.ref (gad w 0), .int (iz x1), .int (iz x2)] (Nat.le_of_ble_eq_true rfl) ?_
  intro p e s m below meth c ls hz C0 hl G
  obtain ⟨hx, hb, hr, hml, hown, hts, hlk, hNw, hA⟩ := id C0
  have hown : s.vm.findClass RX6 = some m.cls := hown
  have hl : lv_has ls 4 [(0, .ref (gad w 0)), (1, .int (iz x1)), (2, .int (iz x2))] := hl
  refine lv_iload_n hx hb dX6_setStop_0 rfl (lv_at hl 1 rfl) ?_
  obtain ⟨p1, hv⟩ := hv
  refine g_callSi (rest := []) hx hb hml hts hown hNw hA G [.int (iz x1)] (c_X6_isRule l w σ _ x1 p1) wm_264 wm_265 wm_2 wm_266 hd_X6_isRule ⟨rfl, rfl, Nat.le_of_ble_eq_true rfl, Nat.le_of_ble_eq_true rfl⟩ rfl hl.1 (Nat.le_of_ble_eq_true rfl) rfl dX6_setStop_1 ⟨Nat.zero_le _, Nat.zero_le _⟩ (fun r4 s2 H locs h3 G => ?_)
  obtain ⟨er4, es2⟩ := h3
  rw [es2] at G
  have hv := hv r4 er4
  obtain ⟨i5, hv⟩ := hv
  refine g_if_eq (tgt := 19) hx hb i5 dX6_setStop_4 (by decide) (fun c6 => ?_) (fun c6 => ?_)
  · have hv := hv.1 c6
    refine lv_aload_n hx hb dX6_setStop_19 rfl (lv_at hl 0 rfl) ?_
    refine lv_bipush (v := iz (-2)) hx hb dX6_setStop_20 (by decide +kernel) ?_
    obtain ⟨p7, hv⟩ := hv
    refine g_callVi (rest := []) hx hb hml hts hown hNw hA G [.int (iz (-2))] (c_X6_fail l w σ _ (-2) p7) sh_0 rfl wm_129 wm_130 wm_131 wm_2 wm_132 hd_X6_fail ⟨rfl, rfl, Nat.le_of_ble_eq_true rfl, Nat.le_of_ble_eq_true rfl⟩ rfl hl.1 (Nat.le_of_ble_eq_true rfl) rfl dX6_setStop_22 ⟨Nat.zero_le _, Nat.zero_le _⟩ (fun r10 s8 H locs h9 G => ?_)
    have hv := hv r10 h9.1 s8 h9.2
    exact g_iret hx hb hr hlk hz G hv dX6_setStop_25
  · have hv := hv.2 c6
    refine lv_iload_n hx hb dX6_setStop_7 rfl (lv_at hl 2 rfl) ?_
    refine lv_iconst (v := iz (-1)) hx hb dX6_setStop_8 rfl ?_
    obtain ⟨i11, hv⟩ := hv
    refine g_icmp_eq (tgt := 26) hx hb i11 ⟨by decide, by decide⟩ dX6_setStop_9 (by decide) (fun c12 => ?_) (fun c12 => ?_)
    · have hv := hv.1 c12
      refine lv_aload_n hx hb dX6_setStop_26 rfl (lv_at hl 0 rfl) ?_
      refine g_getR hx hb hts hown 0 1 inlX6 G sh_0 rfl (by decide) rfl wm_15 dX6_setStop_27 ?_
      refine lv_iload_n hx hb dX6_setStop_30 rfl (lv_at hl 1 rfl) ?_
      obtain ⟨p13, hv⟩ := hv
      refine g_callVi (rest := []) hx hb hml hts hown hNw hA G [.int (iz x1)] (c_X5_stopOf l w σ _ x1 p13) sh_1 rfl wm_303 wm_304 wm_305 wm_14 wm_306 hd_X5_stopOf ⟨rfl, rfl, Nat.le_of_ble_eq_true rfl, Nat.le_of_ble_eq_true rfl⟩ rfl hl.1 (Nat.le_of_ble_eq_true rfl) rfl dX6_setStop_31 ⟨Nat.zero_le _, Nat.zero_le _⟩ (fun r16 s14 H locs h15 G => ?_)
      obtain ⟨er16, es14⟩ := h15
      rw [es14] at G
      have hv := hv r16 er16
      refine lv_istore_n (lv' := [(3, .int (iz r16)), (0, .ref (gad w 0)), (1, .int (iz x1)), (2, .int (iz x2))]) hx hb dX6_setStop_34 rfl hl (by decide) rfl (fun ls hl => ?_)
      refine lv_aload_n hx hb dX6_setStop_35 rfl (lv_at hl 1 rfl) ?_
      obtain ⟨p17, hv⟩ := hv
      refine g_callVv (rest := []) hx hb hml hts hown hNw hA G [] (c_X6_prepareChange l w σ _ p17) sh_0 rfl wm_141 wm_142 wm_143 wm_2 wm_144 hd_X6_prepareChange ⟨rfl, rfl, Nat.le_of_ble_eq_true rfl, Nat.le_of_ble_eq_true rfl⟩ rfl hl.1 (Nat.le_of_ble_eq_true rfl) rfl dX6_setStop_36 ⟨Nat.zero_le _, Nat.zero_le _⟩ (fun s18 H locs h19 G => ?_)
      have hv := hv s18 h19
      refine lv_aload_n hx hb dX6_setStop_39 rfl (lv_at hl 1 rfl) ?_
      refine g_getR hx hb hts hown 0 1 inlX6 G sh_0 rfl (by decide) rfl wm_15 dX6_setStop_40 ?_
      refine lv_iload_n hx hb dX6_setStop_43 rfl (lv_at hl 2 rfl) ?_
      refine lv_iload_n hx hb dX6_setStop_44 rfl (lv_at hl 3 rfl) ?_
      obtain ⟨p20, hv⟩ := hv
      refine g_callVv (rest := []) hx hb hml hts hown hNw hA G [.int (iz x1), .int (iz x2)] (c_X5_putStop l w s18 _ x1 x2 p20) sh_1 rfl wm_307 wm_308 wm_309 wm_14 wm_310 hd_X5_putStop ⟨rfl, rfl, Nat.le_of_ble_eq_true rfl, Nat.le_of_ble_eq_true rfl⟩ rfl hl.1 (Nat.le_of_ble_eq_true rfl) rfl dX6_setStop_45 ⟨Nat.zero_le _, Nat.zero_le _⟩ (fun s21 H locs h22 G => ?_)
      have hv := hv s21 h22
      refine lv_iload_n hx hb dX6_setStop_48 rfl (lv_at hl 0 rfl) ?_
      exact g_iret hx hb hr hlk hz G hv dX6_setStop_49
    · have hv := hv.2 c12
      refine lv_iload_n hx hb dX6_setStop_12 rfl (lv_at hl 2 rfl) ?_
      obtain ⟨p23, hv⟩ := hv
      refine g_callSi (rest := []) hx hb hml hts hown hNw hA G [.int (iz x2)] (c_X6_isByte l w σ _ x2 p23) wm_126 wm_127 wm_2 wm_128 hd_X6_isByte ⟨rfl, rfl, Nat.le_of_ble_eq_true rfl, Nat.le_of_ble_eq_true rfl⟩ rfl hl.1 (Nat.le_of_ble_eq_true rfl) rfl dX6_setStop_13 ⟨Nat.zero_le _, Nat.zero_le _⟩ (fun r26 s24 H locs h25 G => ?_)
      obtain ⟨er26, es24⟩ := h25
      rw [es24] at G
      have hv := hv r26 er26
      obtain ⟨i27, hv⟩ := hv
      refine g_if_ne (tgt := 26) hx hb i27 dX6_setStop_16 (by decide) (fun c28 => ?_) (fun c28 => ?_)
      · have hv := hv.1 c28
        refine lv_aload_n hx hb dX6_setStop_26 rfl (lv_at hl 0 rfl) ?_
        refine g_getR hx hb hts hown 0 1 inlX6 G sh_0 rfl (by decide) rfl wm_15 dX6_setStop_27 ?_
        refine lv_iload_n hx hb dX6_setStop_30 rfl (lv_at hl 1 rfl) ?_
        obtain ⟨p29, hv⟩ := hv
        refine g_callVi (rest := []) hx hb hml hts hown hNw hA G [.int (iz x1)] (c_X5_stopOf l w σ _ x1 p29) sh_1 rfl wm_303 wm_304 wm_305 wm_14 wm_306 hd_X5_stopOf ⟨rfl, rfl, Nat.le_of_ble_eq_true rfl, Nat.le_of_ble_eq_true rfl⟩ rfl hl.1 (Nat.le_of_ble_eq_true rfl) rfl dX6_setStop_31 ⟨Nat.zero_le _, Nat.zero_le _⟩ (fun r32 s30 H locs h31 G => ?_)
        obtain ⟨er32, es30⟩ := h31
        rw [es30] at G
        have hv := hv r32 er32
        refine lv_istore_n (lv' := [(3, .int (iz r32)), (0, .ref (gad w 0)), (1, .int (iz x1)), (2, .int (iz x2))]) hx hb dX6_setStop_34 rfl hl (by decide) rfl (fun ls hl => ?_)
        refine lv_aload_n hx hb dX6_setStop_35 rfl (lv_at hl 1 rfl) ?_
        obtain ⟨p33, hv⟩ := hv
        refine g_callVv (rest := []) hx hb hml hts hown hNw hA G [] (c_X6_prepareChange l w σ _ p33) sh_0 rfl wm_141 wm_142 wm_143 wm_2 wm_144 hd_X6_prepareChange ⟨rfl, rfl, Nat.le_of_ble_eq_true rfl, Nat.le_of_ble_eq_true rfl⟩ rfl hl.1 (Nat.le_of_ble_eq_true rfl) rfl dX6_setStop_36 ⟨Nat.zero_le _, Nat.zero_le _⟩ (fun s34 H locs h35 G => ?_)
        have hv := hv s34 h35
        refine lv_aload_n hx hb dX6_setStop_39 rfl (lv_at hl 1 rfl) ?_
        refine g_getR hx hb hts hown 0 1 inlX6 G sh_0 rfl (by decide) rfl wm_15 dX6_setStop_40 ?_
        refine lv_iload_n hx hb dX6_setStop_43 rfl (lv_at hl 2 rfl) ?_
        refine lv_iload_n hx hb dX6_setStop_44 rfl (lv_at hl 3 rfl) ?_
        obtain ⟨p36, hv⟩ := hv
        refine g_callVv (rest := []) hx hb hml hts hown hNw hA G [.int (iz x1), .int (iz x2)] (c_X5_putStop l w s34 _ x1 x2 p36) sh_1 rfl wm_307 wm_308 wm_309 wm_14 wm_310 hd_X5_putStop ⟨rfl, rfl, Nat.le_of_ble_eq_true rfl, Nat.le_of_ble_eq_true rfl⟩ rfl hl.1 (Nat.le_of_ble_eq_true rfl) rfl dX6_setStop_45 ⟨Nat.zero_le _, Nat.zero_le _⟩ (fun s37 H locs h38 G => ?_)
        have hv := hv s37 h38
        refine lv_iload_n hx hb dX6_setStop_48 rfl (lv_at hl 0 rfl) ?_
        exact g_iret hx hb hr hlk hz G hv dX6_setStop_49
      · have hv := hv.2 c28
        refine lv_aload_n hx hb dX6_setStop_19 rfl (lv_at hl 0 rfl) ?_
        refine lv_bipush (v := iz (-2)) hx hb dX6_setStop_20 (by decide +kernel) ?_
        obtain ⟨p39, hv⟩ := hv
        refine g_callVi (rest := []) hx hb hml hts hown hNw hA G [.int (iz (-2))] (c_X6_fail l w σ _ (-2) p39) sh_0 rfl wm_129 wm_130 wm_131 wm_2 wm_132 hd_X6_fail ⟨rfl, rfl, Nat.le_of_ble_eq_true rfl, Nat.le_of_ble_eq_true rfl⟩ rfl hl.1 (Nat.le_of_ble_eq_true rfl) rfl dX6_setStop_22 ⟨Nat.zero_le _, Nat.zero_le _⟩ (fun r42 s40 H locs h41 G => ?_)
        have hv := hv r42 h41.1 s40 h41.2
        exact g_iret hx hb hr hlk hz G hv dX6_setStop_25
abbrev rm_X5_patternAt : Room := ({ frames := 1, cells := 0, slots := 0, locals := 21 } : Room)
theorem hd_X5_patternAt : yX5_patternAt.cls = RX5 ∧ yX5_patternAt.cls ≠ "java/lang/invoke/MethodHandle" ∧ yX5_patternAt.cls ≠ "java/lang/invoke/VarHandle" ∧ (parseMethodDescriptor yX5_patternAt.desc).map (fun d => d.parameters.length) = some 2 := ⟨rfl, by decide +kernel, by decide +kernel, by decide +kernel⟩
set_option maxHeartbeats 4000000 in
set_option maxRecDepth 100000 in
theorem c_X5_patternAt (l : Launch) (w : GW) (σ : St) (sz : Nat) (x1 x2 : Int) (hp : pre_X5_patternAt x1 x2 σ) : Met l yX5_patternAt (Cond.code yX5_patternAt cX5_patternAt 3 (some .int) :: wsL_law) rm_X5_patternAt (gPc w gSL σ sz [.ref (gad w 1), .int (iz x1), .int (iz x2)]) (gQi w gSL sz (post_X5_patternAt x1 x2 σ)) 0 0 (gA w gSL.length sz) := by
  have hv : V_X5_patternAt x1 x2 σ (post_X5_patternAt x1 x2 σ) := v_X5_patternAt x1 x2 σ hp
  refine g_met (by decide) [.ref (gad w 1), .int (iz x1), .int (iz x2)] (Nat.le_of_ble_eq_true rfl) ?_
  intro p e s m below meth c ls hz C0 hl G
  obtain ⟨hx, hb, hr, hml, hown, hts, hlk, hNw, hA⟩ := id C0
  have hown : s.vm.findClass RX5 = some m.cls := hown
  have hl : lv_has ls 3 [(0, .ref (gad w 1)), (1, .int (iz x1)), (2, .int (iz x2))] := hl
  refine lv_aload_n hx hb dX5_patternAt_0 rfl (lv_at hl 0 rfl) ?_
  refine g_getR hx hb hts hown 2 6 inlX5 G sh_1 rfl (by decide) rfl wm_42 dX5_patternAt_1 ?_
  refine lv_iload_n hx hb dX5_patternAt_4 rfl (lv_at hl 1 rfl) ?_
  refine lv_bipush (v := iz 8) hx hb dX5_patternAt_5 (by decide +kernel) ?_
  refine g_imul hx hb dX5_patternAt_7 ?_
  refine lv_iload_n hx hb dX5_patternAt_8 rfl (lv_at hl 2 rfl) ?_
  refine g_iadd hx hb dX5_patternAt_9 ?_
  obtain ⟨p1, hv⟩ := hv
  refine g_callVi (rest := []) hx hb hml hts hown hNw hA G [.int (iz ((x1 * 8) + x2))] (c_X4_get l w σ _ 6 48 ⟨sh_6, sh_7⟩ ((x1 * 8) + x2) p1) sh_6 rfl wm_170 wm_134 wm_135 wm_22 wm_136 hd_X4_get ⟨rfl, rfl, Nat.le_of_ble_eq_true rfl, Nat.le_of_ble_eq_true rfl⟩ rfl hl.1 (Nat.le_of_ble_eq_true rfl) rfl dX5_patternAt_10 ⟨Nat.zero_le _, Nat.zero_le _⟩ (fun r4 s2 H locs h3 G => ?_)
  obtain ⟨er4, es2⟩ := h3
  rw [es2] at G
  have hv := hv r4 er4
  exact g_iret hx hb hr hlk hz G hv dX5_patternAt_13
abbrev rm_X6_element : Room := ({ frames := 2, cells := 0, slots := 0, locals := 44 } : Room)
theorem hd_X6_element : yX6_element.cls = RX6 ∧ yX6_element.cls ≠ "java/lang/invoke/MethodHandle" ∧ yX6_element.cls ≠ "java/lang/invoke/VarHandle" ∧ (parseMethodDescriptor yX6_element.desc).map (fun d => d.parameters.length) = some 2 := ⟨rfl, by decide +kernel, by decide +kernel, by decide +kernel⟩
set_option maxHeartbeats 4000000 in
set_option maxRecDepth 100000 in
theorem c_X6_element (l : Launch) (w : GW) (σ : St) (sz : Nat) (x1 x2 : Int) (hp : pre_X6_element x1 x2 σ) : Met l yX6_element (Cond.code yX6_element cX6_element 3 (some .int) :: wsL_law) rm_X6_element (gPc w gSL σ sz [.ref (gad w 0), .int (iz x1), .int (iz x2)]) (gQi w gSL sz (post_X6_element x1 x2 σ)) 0 0 (gA w gSL.length sz) := by
  have hv : V_X6_element x1 x2 σ (post_X6_element x1 x2 σ) := v_X6_element x1 x2 σ hp
  refine g_met (by decide) [.ref (gad w 0), .int (iz x1), .int (iz x2)] (Nat.le_of_ble_eq_true rfl) ?_
  intro p e s m below meth c ls hz C0 hl G
  obtain ⟨hx, hb, hr, hml, hown, hts, hlk, hNw, hA⟩ := id C0
  have hown : s.vm.findClass RX6 = some m.cls := hown
  have hl : lv_has ls 3 [(0, .ref (gad w 0)), (1, .int (iz x1)), (2, .int (iz x2))] := hl
  refine lv_iload_n hx hb dX6_element_0 rfl (lv_at hl 1 rfl) ?_
  obtain ⟨p1, hv⟩ := hv
  refine g_callSi (rest := []) hx hb hml hts hown hNw hA G [.int (iz x1)] (c_X6_isRule l w σ _ x1 p1) wm_264 wm_265 wm_2 wm_266 hd_X6_isRule ⟨rfl, rfl, Nat.le_of_ble_eq_true rfl, Nat.le_of_ble_eq_true rfl⟩ rfl hl.1 (Nat.le_of_ble_eq_true rfl) rfl dX6_element_1 ⟨Nat.zero_le _, Nat.zero_le _⟩ (fun r4 s2 H locs h3 G => ?_)
  obtain ⟨er4, es2⟩ := h3
  rw [es2] at G
  have hv := hv r4 er4
  obtain ⟨i5, hv⟩ := hv
  refine g_if_eq (tgt := 11) hx hb i5 dX6_element_4 (by decide) (fun c6 => ?_) (fun c6 => ?_)
  · have hv := hv.1 c6
    refine lv_aload_n hx hb dX6_element_11 rfl (lv_at hl 0 rfl) ?_
    refine lv_bipush (v := iz (-2)) hx hb dX6_element_12 (by decide +kernel) ?_
    obtain ⟨p7, hv⟩ := hv
    refine g_callVi (rest := []) hx hb hml hts hown hNw hA G [.int (iz (-2))] (c_X6_fail l w σ _ (-2) p7) sh_0 rfl wm_129 wm_130 wm_131 wm_2 wm_132 hd_X6_fail ⟨rfl, rfl, Nat.le_of_ble_eq_true rfl, Nat.le_of_ble_eq_true rfl⟩ rfl hl.1 (Nat.le_of_ble_eq_true rfl) rfl dX6_element_14 ⟨Nat.zero_le _, Nat.zero_le _⟩ (fun r10 s8 H locs h9 G => ?_)
    have hv := hv r10 h9.1 s8 h9.2
    exact g_iret hx hb hr hlk hz G hv dX6_element_17
  · have hv := hv.2 c6
    refine lv_iload_n hx hb dX6_element_7 rfl (lv_at hl 2 rfl) ?_
    obtain ⟨i11, hv⟩ := hv
    refine g_if_ge (tgt := 18) hx hb i11 dX6_element_8 (by decide) (fun c12 => ?_) (fun c12 => ?_)
    · have hv := hv.1 c12
      refine lv_iload_n hx hb dX6_element_18 rfl (lv_at hl 2 rfl) ?_
      refine lv_aload_n hx hb dX6_element_19 rfl (lv_at hl 0 rfl) ?_
      refine g_getR hx hb hts hown 0 1 inlX6 G sh_0 rfl (by decide) rfl wm_15 dX6_element_20 ?_
      refine lv_iload_n hx hb dX6_element_23 rfl (lv_at hl 1 rfl) ?_
      obtain ⟨p13, hv⟩ := hv
      refine g_callVi (rest := [.int (iz x2)]) hx hb hml hts hown hNw hA G [.int (iz x1)] (c_X5_patternSize l w σ _ x1 p13) sh_1 rfl wm_291 wm_292 wm_293 wm_14 wm_294 hd_X5_patternSize ⟨rfl, rfl, Nat.le_of_ble_eq_true rfl, Nat.le_of_ble_eq_true rfl⟩ rfl hl.1 (Nat.le_of_ble_eq_true rfl) rfl dX6_element_24 ⟨Nat.zero_le _, Nat.zero_le _⟩ (fun r16 s14 H locs h15 G => ?_)
      obtain ⟨er16, es14⟩ := h15
      rw [es14] at G
      have hv := hv r16 er16
      obtain ⟨i17, hv⟩ := hv
      refine g_icmp_ge (tgt := 42) hx hb i11 i17 dX6_element_27 (by decide) (fun c18 => ?_) (fun c18 => ?_)
      · have hv := hv.1 c18
        refine lv_iconst (v := iz (-1)) hx hb dX6_element_42 rfl ?_
        exact g_iret hx hb hr hlk hz G hv dX6_element_43
      · have hv := hv.2 c18
        refine lv_aload_n hx hb dX6_element_30 rfl (lv_at hl 0 rfl) ?_
        refine g_getR hx hb hts hown 0 1 inlX6 G sh_0 rfl (by decide) rfl wm_15 dX6_element_31 ?_
        refine lv_iload_n hx hb dX6_element_34 rfl (lv_at hl 1 rfl) ?_
        refine lv_iload_n hx hb dX6_element_35 rfl (lv_at hl 2 rfl) ?_
        obtain ⟨p19, hv⟩ := hv
        refine g_callVi (rest := []) hx hb hml hts hown hNw hA G [.int (iz x1), .int (iz x2)] (c_X5_patternAt l w σ _ x1 x2 p19) sh_1 rfl wm_319 wm_320 wm_321 wm_14 wm_322 hd_X5_patternAt ⟨rfl, rfl, Nat.le_of_ble_eq_true rfl, Nat.le_of_ble_eq_true rfl⟩ rfl hl.1 (Nat.le_of_ble_eq_true rfl) rfl dX6_element_36 ⟨Nat.zero_le _, Nat.zero_le _⟩ (fun r22 s20 H locs h21 G => ?_)
        obtain ⟨er22, es20⟩ := h21
        rw [es20] at G
        have hv := hv r22 er22
        refine lv_goto (tgt := 43) hx hb dX6_element_39 (by decide) ?_
        exact g_iret hx hb hr hlk hz G hv dX6_element_43
    · have hv := hv.2 c12
      refine lv_aload_n hx hb dX6_element_11 rfl (lv_at hl 0 rfl) ?_
      refine lv_bipush (v := iz (-2)) hx hb dX6_element_12 (by decide +kernel) ?_
      obtain ⟨p23, hv⟩ := hv
      refine g_callVi (rest := []) hx hb hml hts hown hNw hA G [.int (iz (-2))] (c_X6_fail l w σ _ (-2) p23) sh_0 rfl wm_129 wm_130 wm_131 wm_2 wm_132 hd_X6_fail ⟨rfl, rfl, Nat.le_of_ble_eq_true rfl, Nat.le_of_ble_eq_true rfl⟩ rfl hl.1 (Nat.le_of_ble_eq_true rfl) rfl dX6_element_14 ⟨Nat.zero_le _, Nat.zero_le _⟩ (fun r26 s24 H locs h25 G => ?_)
      have hv := hv r26 h25.1 s24 h25.2
      exact g_iret hx hb hr hlk hz G hv dX6_element_17
abbrev rm_X6_isDigit : Room := ({ frames := 0, cells := 0, slots := 0, locals := 0 } : Room)
theorem hd_X6_isDigit : yX6_isDigit.cls ≠ "java/lang/invoke/MethodHandle" ∧ yX6_isDigit.cls ≠ "java/lang/invoke/VarHandle" ∧ (parseMethodDescriptor yX6_isDigit.desc).map (fun d => d.parameters.length) = some 1 := ⟨by decide +kernel, by decide +kernel, by decide +kernel⟩
set_option maxHeartbeats 4000000 in
set_option maxRecDepth 100000 in
theorem c_X6_isDigit (l : Launch) (w : GW) (σ : St) (sz : Nat) (x0 : Int) (hp : pre_X6_isDigit x0 σ) : Met l yX6_isDigit (Cond.code yX6_isDigit cX6_isDigit 1 (some .boolean) :: wsL_law) rm_X6_isDigit (gPc w gSL σ sz [.int (iz x0)]) (gQi w gSL sz (post_X6_isDigit x0 σ)) 0 0 (gA w gSL.length sz) := by
  have hv : V_X6_isDigit x0 σ (post_X6_isDigit x0 σ) := v_X6_isDigit x0 σ hp
  refine g_met (by decide) [.int (iz x0)] (Nat.le_of_ble_eq_true rfl) ?_
  intro p e s m below meth c ls hz C0 hl G
  obtain ⟨hx, hb, hr, hml, hown, hts, hlk, hNw, hA⟩ := id C0
  have hown : s.vm.findClass RX6 = some m.cls := hown
  have hl : lv_has ls 1 [(0, .int (iz x0))] := hl
  refine lv_iload_n hx hb dX6_isDigit_0 rfl (lv_at hl 0 rfl) ?_
  refine lv_bipush (v := iz 48) hx hb dX6_isDigit_1 (by decide +kernel) ?_
  obtain ⟨i1, hv⟩ := hv
  refine g_icmp_lt (tgt := 16) hx hb i1 ⟨by decide, by decide⟩ dX6_isDigit_3 (by decide) (fun c2 => ?_) (fun c2 => ?_)
  · have hv := hv.1 c2
    refine lv_iconst (v := iz 0) hx hb dX6_isDigit_16 rfl ?_
    exact g_zret hx hb hr hlk hz G (Or.inl rfl) hv dX6_isDigit_17
  · have hv := hv.2 c2
    refine lv_iload_n hx hb dX6_isDigit_6 rfl (lv_at hl 0 rfl) ?_
    refine lv_bipush (v := iz 57) hx hb dX6_isDigit_7 (by decide +kernel) ?_
    refine g_icmp_gt (tgt := 16) hx hb i1 ⟨by decide, by decide⟩ dX6_isDigit_9 (by decide) (fun c3 => ?_) (fun c3 => ?_)
    · have hv := hv.1 c3
      refine lv_iconst (v := iz 0) hx hb dX6_isDigit_16 rfl ?_
      exact g_zret hx hb hr hlk hz G (Or.inl rfl) hv dX6_isDigit_17
    · have hv := hv.2 c3
      refine lv_iconst (v := iz 1) hx hb dX6_isDigit_12 rfl ?_
      refine lv_goto (tgt := 17) hx hb dX6_isDigit_13 (by decide) ?_
      exact g_zret hx hb hr hlk hz G (Or.inr rfl) hv dX6_isDigit_17
abbrev rm_X2_runEnd : Room := ({ frames := 1, cells := 0, slots := 0, locals := 21 } : Room)
theorem hd_X2_runEnd : yX2_runEnd.cls ≠ "java/lang/invoke/MethodHandle" ∧ yX2_runEnd.cls ≠ "java/lang/invoke/VarHandle" ∧ (parseMethodDescriptor yX2_runEnd.desc).map (fun d => d.parameters.length) = some 2 := ⟨by decide +kernel, by decide +kernel, by decide +kernel⟩
set_option maxHeartbeats 4000000 in
set_option maxRecDepth 100000 in
theorem c_X2_runEnd (l : Launch) (w : GW) (σ : St) (sz : Nat) (k nn : Nat) (hik : isRow k nn) (x1 : Int) (hp : pre_X2_runEnd k nn x1 σ) : Met l yX2_runEnd (Cond.code yX2_runEnd cX2_runEnd 3 (some .int) :: wsL_law) rm_X2_runEnd (gPc w gSL σ sz [.ref (gad w k), .int (iz x1)]) (gQi w gSL sz (post_X2_runEnd k nn x1 σ)) 0 0 (gA w gSL.length sz) := by
  have hv : V_X2_runEnd k nn x1 σ (post_X2_runEnd k nn x1 σ) := v_X2_runEnd k nn hik x1 σ hp
  refine g_met (by decide) [.ref (gad w k), .int (iz x1)] (Nat.le_of_ble_eq_true rfl) ?_
  intro p e s m below meth c ls hz C0 hl G
  obtain ⟨hx, hb, hr, hml, hown, hts, hlk, hNw, hA⟩ := id C0
  have hown : s.vm.findClass RX2 = some m.cls := hown
  have hl : lv_has ls 3 [(0, .ref (gad w k)), (1, .int (iz x1))] := hl
  refine lv_aload_n hx hb dX2_runEnd_0 rfl (lv_at hl 0 rfl) ?_
  refine lv_iload_n hx hb dX2_runEnd_1 rfl (lv_at hl 1 rfl) ?_
  refine lv_iconst (v := iz 1) hx hb dX2_runEnd_2 rfl ?_
  refine g_iadd hx hb dX2_runEnd_3 ?_
  obtain ⟨p1, hv⟩ := hv
  refine g_callVi (rest := []) hx hb hml hts hown hNw hA G [.int (iz (x1 + 1))] (c_X4_get l w σ _ k nn hik (x1 + 1) p1) hik.1 rfl wm_354 wm_134 wm_135 wm_22 wm_136 hd_X4_get ⟨rfl, rfl, Nat.le_of_ble_eq_true rfl, Nat.le_of_ble_eq_true rfl⟩ rfl hl.1 (Nat.le_of_ble_eq_true rfl) rfl dX2_runEnd_4 ⟨Nat.zero_le _, Nat.zero_le _⟩ (fun r4 s2 H locs h3 G => ?_)
  obtain ⟨er4, es2⟩ := h3
  rw [es2] at G
  have hv := hv r4 er4
  refine lv_istore_n (lv' := [(2, .int (iz r4)), (0, .ref (gad w k)), (1, .int (iz x1))]) hx hb dX2_runEnd_7 rfl hl (by decide) rfl (fun ls hl => ?_)
  refine lv_iload_n hx hb dX2_runEnd_8 rfl (lv_at hl 0 rfl) ?_
  refine lv_iconst (v := iz (-1)) hx hb dX2_runEnd_9 rfl ?_
  obtain ⟨i5, hv⟩ := hv
  refine g_icmp_ne (tgt := 19) hx hb i5 ⟨by decide, by decide⟩ dX2_runEnd_10 (by decide) (fun c6 => ?_) (fun c6 => ?_)
  · have hv := hv.1 c6
    refine lv_iload_n hx hb dX2_runEnd_19 rfl (lv_at hl 0 rfl) ?_
    exact g_iret hx hb hr hlk hz G hv dX2_runEnd_20
  · have hv := hv.2 c6
    refine lv_iload_n hx hb dX2_runEnd_13 rfl (lv_at hl 2 rfl) ?_
    refine lv_iconst (v := iz 1) hx hb dX2_runEnd_14 rfl ?_
    refine g_iadd hx hb dX2_runEnd_15 ?_
    refine lv_goto (tgt := 20) hx hb dX2_runEnd_16 (by decide) ?_
    exact g_iret hx hb hr hlk hz G hv dX2_runEnd_20
abbrev rm_X6_isLetter : Room := ({ frames := 0, cells := 0, slots := 0, locals := 0 } : Room)
theorem hd_X6_isLetter : yX6_isLetter.cls ≠ "java/lang/invoke/MethodHandle" ∧ yX6_isLetter.cls ≠ "java/lang/invoke/VarHandle" ∧ (parseMethodDescriptor yX6_isLetter.desc).map (fun d => d.parameters.length) = some 1 := ⟨by decide +kernel, by decide +kernel, by decide +kernel⟩
set_option maxHeartbeats 4000000 in
set_option maxRecDepth 100000 in
theorem c_X6_isLetter (l : Launch) (w : GW) (σ : St) (sz : Nat) (x0 : Int) (hp : pre_X6_isLetter x0 σ) : Met l yX6_isLetter (Cond.code yX6_isLetter cX6_isLetter 1 (some .boolean) :: wsL_law) rm_X6_isLetter (gPc w gSL σ sz [.int (iz x0)]) (gQi w gSL sz (post_X6_isLetter x0 σ)) 0 0 (gA w gSL.length sz) := by
  have hv : V_X6_isLetter x0 σ (post_X6_isLetter x0 σ) := v_X6_isLetter x0 σ hp
  refine g_met (by decide) [.int (iz x0)] (Nat.le_of_ble_eq_true rfl) ?_
  intro p e s m below meth c ls hz C0 hl G
  obtain ⟨hx, hb, hr, hml, hown, hts, hlk, hNw, hA⟩ := id C0
  have hown : s.vm.findClass RX6 = some m.cls := hown
  have hl : lv_has ls 1 [(0, .int (iz x0))] := hl
  refine lv_iload_n hx hb dX6_isLetter_0 rfl (lv_at hl 0 rfl) ?_
  refine lv_bipush (v := iz 97) hx hb dX6_isLetter_1 (by decide +kernel) ?_
  obtain ⟨i1, hv⟩ := hv
  refine g_icmp_lt (tgt := 16) hx hb i1 ⟨by decide, by decide⟩ dX6_isLetter_3 (by decide) (fun c2 => ?_) (fun c2 => ?_)
  · have hv := hv.1 c2
    refine lv_iconst (v := iz 0) hx hb dX6_isLetter_16 rfl ?_
    exact g_zret hx hb hr hlk hz G (Or.inl rfl) hv dX6_isLetter_17
  · have hv := hv.2 c2
    refine lv_iload_n hx hb dX6_isLetter_6 rfl (lv_at hl 0 rfl) ?_
    refine lv_bipush (v := iz 122) hx hb dX6_isLetter_7 (by decide +kernel) ?_
    refine g_icmp_gt (tgt := 16) hx hb i1 ⟨by decide, by decide⟩ dX6_isLetter_9 (by decide) (fun c3 => ?_) (fun c3 => ?_)
    · have hv := hv.1 c3
      refine lv_iconst (v := iz 0) hx hb dX6_isLetter_16 rfl ?_
      exact g_zret hx hb hr hlk hz G (Or.inl rfl) hv dX6_isLetter_17
    · have hv := hv.2 c3
      refine lv_iconst (v := iz 1) hx hb dX6_isLetter_12 rfl ?_
      refine lv_goto (tgt := 17) hx hb dX6_isLetter_13 (by decide) ?_
      exact g_zret hx hb hr hlk hz G (Or.inr rfl) hv dX6_isLetter_17
abbrev rm_X2_markRuns : Room := ({ frames := 2, cells := 0, slots := 0, locals := 43 } : Room)
theorem hd_X2_markRuns : yX2_markRuns.cls = RX2 ∧ yX2_markRuns.cls ≠ "java/lang/invoke/MethodHandle" ∧ yX2_markRuns.cls ≠ "java/lang/invoke/VarHandle" ∧ (parseMethodDescriptor yX2_markRuns.desc).map (fun d => d.parameters.length) = some 1 := ⟨rfl, by decide +kernel, by decide +kernel, by decide +kernel⟩
set_option maxHeartbeats 4000000 in
set_option maxRecDepth 100000 in
theorem c_X2_markRuns (l : Launch) (w : GW) (σ : St) (sz : Nat) (x1 : Int) (hp : pre_X2_markRuns x1 σ) : Met l yX2_markRuns (Cond.code yX2_markRuns cX2_markRuns 3 none :: wsL_law) rm_X2_markRuns (gPc w gSL σ sz [.ref (gad w 52), .int (iz x1)]) (gQv w gSL sz (post_X2_markRuns x1 σ)) 0 0 (gA w gSL.length sz) := by
  have hv : V_X2_markRuns x1 σ (post_X2_markRuns x1 σ) := v_X2_markRuns x1 σ hp
  refine g_met (by decide) [.ref (gad w 52), .int (iz x1)] (Nat.le_of_ble_eq_true rfl) ?_
  intro p e s m below meth c ls hz C0 hl G
  obtain ⟨hx, hb, hr, hml, hown, hts, hlk, hNw, hA⟩ := id C0
  have hown : s.vm.findClass RX2 = some m.cls := hown
  have hl : lv_has ls 3 [(0, .ref (gad w 52)), (1, .int (iz x1))] := hl
  refine lv_aload_n hx hb dX2_markRuns_0 rfl (lv_at hl 0 rfl) ?_
  refine g_getR hx hb hts hown 0 1 inlX2 G sh_52 rfl (by decide) rfl wm_76 dX2_markRuns_1 ?_
  refine lv_iload_n hx hb dX2_markRuns_4 rfl (lv_at hl 1 rfl) ?_
  obtain ⟨p1, hv⟩ := hv
  refine g_callVi (rest := []) hx hb hml hts hown hNw hA G [.int (iz x1)] (c_X5_textAt l w σ _ x1 p1) sh_1 rfl wm_348 wm_200 wm_201 wm_14 wm_202 hd_X5_textAt ⟨rfl, rfl, Nat.le_of_ble_eq_true rfl, Nat.le_of_ble_eq_true rfl⟩ rfl hl.1 (Nat.le_of_ble_eq_true rfl) rfl dX2_markRuns_5 ⟨Nat.zero_le _, Nat.zero_le _⟩ (fun r4 s2 H locs h3 G => ?_)
  obtain ⟨er4, es2⟩ := h3
  rw [es2] at G
  have hv := hv r4 er4
  refine lv_istore_n (lv' := [(2, .int (iz r4)), (0, .ref (gad w 52)), (1, .int (iz x1))]) hx hb dX2_markRuns_8 rfl hl (by decide) rfl (fun ls hl => ?_)
  refine lv_aload_n hx hb dX2_markRuns_9 rfl (lv_at hl 1 rfl) ?_
  refine g_getR hx hb hts hown 1 53 inlX2 G sh_52 rfl (by decide) rfl wm_69 dX2_markRuns_10 ?_
  refine lv_iload_n hx hb dX2_markRuns_13 rfl (lv_at hl 2 rfl) ?_
  refine lv_iload_n hx hb dX2_markRuns_14 rfl (lv_at hl 0 rfl) ?_
  obtain ⟨p5, hv⟩ := hv
  refine g_callNi (host := "IslandGrammar") (rest := [.int (iz x1), .ref (gad w 53)]) hx hb hml hts hown hNw hA G [.int (iz r4)] (c_X6_isDigit l w σ _ r4 p5) (List.mem_of_getElem? (i := 2) rfl) wm_349 wm_2 wm_350 hd_X6_isDigit ⟨rfl, rfl, Nat.le_of_ble_eq_true rfl, Nat.le_of_ble_eq_true rfl⟩ rfl hl.1 (Nat.le_of_ble_eq_true rfl) rfl dX2_markRuns_15 ⟨Nat.zero_le _, Nat.zero_le _⟩ (fun r8 s6 H locs h7 G => ?_)
  obtain ⟨er8, es6⟩ := h7
  rw [es6] at G
  have hv := hv r8 er8
  obtain ⟨i9, hv⟩ := hv
  refine g_if_eq (tgt := 32) hx hb i9 dX2_markRuns_18 (by decide) (fun c10 => ?_) (fun c10 => ?_)
  · have hv := hv.1 c10
    refine lv_iconst (v := iz (-1)) hx hb dX2_markRuns_32 rfl ?_
    obtain ⟨p11, hv⟩ := hv
    refine g_callVv (rest := []) hx hb hml hts hown hNw hA G [.int (iz x1), .int (iz (-1))] (c_X4_set l w σ _ 53 101 ⟨sh_53, sh_54⟩ x1 (-1) p11) sh_53 rfl wm_355 wm_138 wm_139 wm_22 wm_140 hd_X4_set ⟨rfl, rfl, Nat.le_of_ble_eq_true rfl, Nat.le_of_ble_eq_true rfl⟩ rfl hl.1 (Nat.le_of_ble_eq_true rfl) rfl dX2_markRuns_33 ⟨Nat.zero_le _, Nat.zero_le _⟩ (fun s12 H locs h13 G => ?_)
    have hv := hv s12 h13
    refine lv_aload_n hx hb dX2_markRuns_36 rfl (lv_at hl 1 rfl) ?_
    refine g_getR hx hb hts hown 2 55 inlX2 G sh_52 rfl (by decide) rfl wm_70 dX2_markRuns_37 ?_
    refine lv_iload_n hx hb dX2_markRuns_40 rfl (lv_at hl 2 rfl) ?_
    refine lv_iload_n hx hb dX2_markRuns_41 rfl (lv_at hl 0 rfl) ?_
    obtain ⟨p14, hv⟩ := hv
    refine g_callNi (host := "IslandGrammar") (rest := [.int (iz x1), .ref (gad w 55)]) hx hb hml hts hown hNw hA G [.int (iz r4)] (c_X6_isLetter l w s12 _ r4 p14) (List.mem_of_getElem? (i := 3) rfl) wm_356 wm_2 wm_357 hd_X6_isLetter ⟨rfl, rfl, Nat.le_of_ble_eq_true rfl, Nat.le_of_ble_eq_true rfl⟩ rfl hl.1 (Nat.le_of_ble_eq_true rfl) rfl dX2_markRuns_42 ⟨Nat.zero_le _, Nat.zero_le _⟩ (fun r17 s15 H locs h16 G => ?_)
    obtain ⟨er17, es15⟩ := h16
    rw [es15] at G
    have hv := hv r17 er17
    obtain ⟨i18, hv⟩ := hv
    refine g_if_eq (tgt := 59) hx hb i18 dX2_markRuns_45 (by decide) (fun c19 => ?_) (fun c19 => ?_)
    · have hv := hv.1 c19
      refine lv_iconst (v := iz (-1)) hx hb dX2_markRuns_59 rfl ?_
      obtain ⟨p20, hv⟩ := hv
      refine g_callVv (rest := []) hx hb hml hts hown hNw hA G [.int (iz x1), .int (iz (-1))] (c_X4_set l w s12 _ 55 101 ⟨sh_55, sh_56⟩ x1 (-1) p20) sh_55 rfl wm_355 wm_138 wm_139 wm_22 wm_140 hd_X4_set ⟨rfl, rfl, Nat.le_of_ble_eq_true rfl, Nat.le_of_ble_eq_true rfl⟩ rfl hl.1 (Nat.le_of_ble_eq_true rfl) rfl dX2_markRuns_60 ⟨Nat.zero_le _, Nat.zero_le _⟩ (fun s21 H locs h22 G => ?_)
      have hv := hv s21 h22
      exact g_vret hx hb hr hlk hz G hv dX2_markRuns_63
    · have hv := hv.2 c19
      refine lv_aload_n hx hb dX2_markRuns_48 rfl (lv_at hl 1 rfl) ?_
      refine g_getR hx hb hts hown 2 55 inlX2 G sh_52 rfl (by decide) rfl wm_70 dX2_markRuns_49 ?_
      refine lv_iload_n hx hb dX2_markRuns_52 rfl (lv_at hl 2 rfl) ?_
      obtain ⟨p23, hv⟩ := hv
      refine g_callSi (rest := [.int (iz x1), .ref (gad w 55)]) hx hb hml hts hown hNw hA G [.ref (gad w 55), .int (iz x1)] (c_X2_runEnd l w s12 _ 55 101 ⟨sh_55, sh_56⟩ x1 p23) wm_351 wm_352 wm_27 wm_353 hd_X2_runEnd ⟨rfl, rfl, Nat.le_of_ble_eq_true rfl, Nat.le_of_ble_eq_true rfl⟩ rfl hl.1 (Nat.le_of_ble_eq_true rfl) rfl dX2_markRuns_53 ⟨Nat.zero_le _, Nat.zero_le _⟩ (fun r26 s24 H locs h25 G => ?_)
      obtain ⟨er26, es24⟩ := h25
      rw [es24] at G
      have hv := hv r26 er26
      refine lv_goto (tgt := 60) hx hb dX2_markRuns_56 (by decide) ?_
      obtain ⟨p27, hv⟩ := hv
      refine g_callVv (rest := []) hx hb hml hts hown hNw hA G [.int (iz x1), .int (iz r26)] (c_X4_set l w s12 _ 55 101 ⟨sh_55, sh_56⟩ x1 r26 p27) sh_55 rfl wm_355 wm_138 wm_139 wm_22 wm_140 hd_X4_set ⟨rfl, rfl, Nat.le_of_ble_eq_true rfl, Nat.le_of_ble_eq_true rfl⟩ rfl hl.1 (Nat.le_of_ble_eq_true rfl) rfl dX2_markRuns_60 ⟨Nat.zero_le _, Nat.zero_le _⟩ (fun s28 H locs h29 G => ?_)
      have hv := hv s28 h29
      exact g_vret hx hb hr hlk hz G hv dX2_markRuns_63
  · have hv := hv.2 c10
    refine lv_aload_n hx hb dX2_markRuns_21 rfl (lv_at hl 1 rfl) ?_
    refine g_getR hx hb hts hown 1 53 inlX2 G sh_52 rfl (by decide) rfl wm_69 dX2_markRuns_22 ?_
    refine lv_iload_n hx hb dX2_markRuns_25 rfl (lv_at hl 2 rfl) ?_
    obtain ⟨p30, hv⟩ := hv
    refine g_callSi (rest := [.int (iz x1), .ref (gad w 53)]) hx hb hml hts hown hNw hA G [.ref (gad w 53), .int (iz x1)] (c_X2_runEnd l w σ _ 53 101 ⟨sh_53, sh_54⟩ x1 p30) wm_351 wm_352 wm_27 wm_353 hd_X2_runEnd ⟨rfl, rfl, Nat.le_of_ble_eq_true rfl, Nat.le_of_ble_eq_true rfl⟩ rfl hl.1 (Nat.le_of_ble_eq_true rfl) rfl dX2_markRuns_26 ⟨Nat.zero_le _, Nat.zero_le _⟩ (fun r33 s31 H locs h32 G => ?_)
    obtain ⟨er33, es31⟩ := h32
    rw [es31] at G
    have hv := hv r33 er33
    refine lv_goto (tgt := 33) hx hb dX2_markRuns_29 (by decide) ?_
    obtain ⟨p34, hv⟩ := hv
    refine g_callVv (rest := []) hx hb hml hts hown hNw hA G [.int (iz x1), .int (iz r33)] (c_X4_set l w σ _ 53 101 ⟨sh_53, sh_54⟩ x1 r33 p34) sh_53 rfl wm_355 wm_138 wm_139 wm_22 wm_140 hd_X4_set ⟨rfl, rfl, Nat.le_of_ble_eq_true rfl, Nat.le_of_ble_eq_true rfl⟩ rfl hl.1 (Nat.le_of_ble_eq_true rfl) rfl dX2_markRuns_33 ⟨Nat.zero_le _, Nat.zero_le _⟩ (fun s35 H locs h36 G => ?_)
    have hv := hv s35 h36
    refine lv_aload_n hx hb dX2_markRuns_36 rfl (lv_at hl 1 rfl) ?_
    refine g_getR hx hb hts hown 2 55 inlX2 G sh_52 rfl (by decide) rfl wm_70 dX2_markRuns_37 ?_
    refine lv_iload_n hx hb dX2_markRuns_40 rfl (lv_at hl 2 rfl) ?_
    refine lv_iload_n hx hb dX2_markRuns_41 rfl (lv_at hl 0 rfl) ?_
    obtain ⟨p37, hv⟩ := hv
    refine g_callNi (host := "IslandGrammar") (rest := [.int (iz x1), .ref (gad w 55)]) hx hb hml hts hown hNw hA G [.int (iz r4)] (c_X6_isLetter l w s35 _ r4 p37) (List.mem_of_getElem? (i := 3) rfl) wm_356 wm_2 wm_357 hd_X6_isLetter ⟨rfl, rfl, Nat.le_of_ble_eq_true rfl, Nat.le_of_ble_eq_true rfl⟩ rfl hl.1 (Nat.le_of_ble_eq_true rfl) rfl dX2_markRuns_42 ⟨Nat.zero_le _, Nat.zero_le _⟩ (fun r40 s38 H locs h39 G => ?_)
    obtain ⟨er40, es38⟩ := h39
    rw [es38] at G
    have hv := hv r40 er40
    obtain ⟨i41, hv⟩ := hv
    refine g_if_eq (tgt := 59) hx hb i41 dX2_markRuns_45 (by decide) (fun c42 => ?_) (fun c42 => ?_)
    · have hv := hv.1 c42
      refine lv_iconst (v := iz (-1)) hx hb dX2_markRuns_59 rfl ?_
      obtain ⟨p43, hv⟩ := hv
      refine g_callVv (rest := []) hx hb hml hts hown hNw hA G [.int (iz x1), .int (iz (-1))] (c_X4_set l w s35 _ 55 101 ⟨sh_55, sh_56⟩ x1 (-1) p43) sh_55 rfl wm_355 wm_138 wm_139 wm_22 wm_140 hd_X4_set ⟨rfl, rfl, Nat.le_of_ble_eq_true rfl, Nat.le_of_ble_eq_true rfl⟩ rfl hl.1 (Nat.le_of_ble_eq_true rfl) rfl dX2_markRuns_60 ⟨Nat.zero_le _, Nat.zero_le _⟩ (fun s44 H locs h45 G => ?_)
      have hv := hv s44 h45
      exact g_vret hx hb hr hlk hz G hv dX2_markRuns_63
    · have hv := hv.2 c42
      refine lv_aload_n hx hb dX2_markRuns_48 rfl (lv_at hl 1 rfl) ?_
      refine g_getR hx hb hts hown 2 55 inlX2 G sh_52 rfl (by decide) rfl wm_70 dX2_markRuns_49 ?_
      refine lv_iload_n hx hb dX2_markRuns_52 rfl (lv_at hl 2 rfl) ?_
      obtain ⟨p46, hv⟩ := hv
      refine g_callSi (rest := [.int (iz x1), .ref (gad w 55)]) hx hb hml hts hown hNw hA G [.ref (gad w 55), .int (iz x1)] (c_X2_runEnd l w s35 _ 55 101 ⟨sh_55, sh_56⟩ x1 p46) wm_351 wm_352 wm_27 wm_353 hd_X2_runEnd ⟨rfl, rfl, Nat.le_of_ble_eq_true rfl, Nat.le_of_ble_eq_true rfl⟩ rfl hl.1 (Nat.le_of_ble_eq_true rfl) rfl dX2_markRuns_53 ⟨Nat.zero_le _, Nat.zero_le _⟩ (fun r49 s47 H locs h48 G => ?_)
      obtain ⟨er49, es47⟩ := h48
      rw [es47] at G
      have hv := hv r49 er49
      refine lv_goto (tgt := 60) hx hb dX2_markRuns_56 (by decide) ?_
      obtain ⟨p50, hv⟩ := hv
      refine g_callVv (rest := []) hx hb hml hts hown hNw hA G [.int (iz x1), .int (iz r49)] (c_X4_set l w s35 _ 55 101 ⟨sh_55, sh_56⟩ x1 r49 p50) sh_55 rfl wm_355 wm_138 wm_139 wm_22 wm_140 hd_X4_set ⟨rfl, rfl, Nat.le_of_ble_eq_true rfl, Nat.le_of_ble_eq_true rfl⟩ rfl hl.1 (Nat.le_of_ble_eq_true rfl) rfl dX2_markRuns_60 ⟨Nat.zero_le _, Nat.zero_le _⟩ (fun s51 H locs h52 G => ?_)
      have hv := hv s51 h52
      exact g_vret hx hb hr hlk hz G hv dX2_markRuns_63
abbrev rm_X0_get : Room := ({ frames := 0, cells := 0, slots := 0, locals := 0 } : Room)
theorem hd_X0_get : yX0_get.cls = RX0 ∧ yX0_get.cls ≠ "java/lang/invoke/MethodHandle" ∧ yX0_get.cls ≠ "java/lang/invoke/VarHandle" ∧ (parseMethodDescriptor yX0_get.desc).map (fun d => d.parameters.length) = some 3 := ⟨rfl, by decide +kernel, by decide +kernel, by decide +kernel⟩
set_option maxHeartbeats 4000000 in
set_option maxRecDepth 100000 in
theorem c_X0_get (l : Launch) (w : GW) (σ : St) (sz : Nat) (x1 x2 x3 : Int) (hp : pre_X0_get x1 x2 x3 σ) : Met l yX0_get (Cond.code yX0_get cX0_get 5 (some .int) :: wsL_law) rm_X0_get (gPc w gSL σ sz [.ref (gad w 59), .int (iz x1), .int (iz x2), .int (iz x3)]) (gQi w gSL sz (post_X0_get x1 x2 x3 σ)) 0 0 (gA w gSL.length sz) := by
  have hv : V_X0_get x1 x2 x3 σ (post_X0_get x1 x2 x3 σ) := v_X0_get x1 x2 x3 σ hp
  refine g_met (by decide) [.ref (gad w 59), .int (iz x1), .int (iz x2), .int (iz x3)] (Nat.le_of_ble_eq_true rfl) ?_
  intro p e s m below meth c ls hz C0 hl G
  obtain ⟨hx, hb, hr, hml, hown, hts, hlk, hNw, hA⟩ := id C0
  have hown : s.vm.findClass RX0 = some m.cls := hown
  have hl : lv_has ls 5 [(0, .ref (gad w 59)), (1, .int (iz x1)), (2, .int (iz x2)), (3, .int (iz x3))] := hl
  refine lv_iload_n hx hb dX0_get_0 rfl (lv_at hl 1 rfl) ?_
  refine lv_bipush (v := iz 9) hx hb dX0_get_1 (by decide +kernel) ?_
  refine g_imul hx hb dX0_get_3 ?_
  refine lv_iload_n hx hb dX0_get_4 rfl (lv_at hl 2 rfl) ?_
  refine g_iadd hx hb dX0_get_5 ?_
  refine lv_bipush (v := iz 101) hx hb dX0_get_6 (by decide +kernel) ?_
  refine g_imul hx hb dX0_get_8 ?_
  refine lv_iload_n hx hb dX0_get_9 rfl (lv_at hl 3 rfl) ?_
  refine g_iadd hx hb dX0_get_10 ?_
  refine lv_istore (lv' := [(4, .int (iz ((((x1 * 9) + x2) * 101) + x3))), (0, .ref (gad w 59)), (1, .int (iz x1)), (2, .int (iz x2)), (3, .int (iz x3))]) hx hb dX0_get_11 hl (by decide) rfl (fun ls hl => ?_)
  refine lv_iload_n hx hb dX0_get_13 rfl (lv_at hl 4 rfl) ?_
  obtain ⟨i1, hv⟩ := hv
  refine g_if_lt (tgt := 42) hx hb i1 dX0_get_14 (by decide) (fun c2 => ?_) (fun c2 => ?_)
  · have hv := hv.1 c2
    refine lv_iconst (v := iz (-1)) hx hb dX0_get_42 rfl ?_
    exact g_iret hx hb hr hlk hz G hv dX0_get_43
  · have hv := hv.2 c2
    refine lv_iload hx hb dX0_get_17 (lv_at hl 0 rfl) ?_
    obtain ⟨i3, hv⟩ := hv
    refine g_if_lt (tgt := 42) hx hb i3 dX0_get_19 (by decide) (fun c4 => ?_) (fun c4 => ?_)
    · have hv := hv.1 c4
      refine lv_iconst (v := iz (-1)) hx hb dX0_get_42 rfl ?_
      exact g_iret hx hb hr hlk hz G hv dX0_get_43
    · have hv := hv.2 c4
      refine lv_iload hx hb dX0_get_22 (lv_at hl 0 rfl) ?_
      refine lv_aload_n hx hb dX0_get_24 rfl (lv_at hl 1 rfl) ?_
      refine g_getR hx hb hts hown 0 60 inlX0 G sh_59 rfl (by decide) rfl wm_81 dX0_get_25 ?_
      refine g_alen hx hb G sh_60 dX0_get_28 ?_
      refine g_icmp_ge (tgt := 42) hx hb i3 ⟨by decide, by decide⟩ dX0_get_29 (by decide) (fun c5 => ?_) (fun c5 => ?_)
      · have hv := hv.1 c5
        refine lv_iconst (v := iz (-1)) hx hb dX0_get_42 rfl ?_
        exact g_iret hx hb hr hlk hz G hv dX0_get_43
      · have hv := hv.2 c5
        refine lv_aload_n hx hb dX0_get_32 rfl (lv_at hl 1 rfl) ?_
        refine g_getR hx hb hts hown 0 60 inlX0 G sh_59 rfl (by decide) rfl wm_81 dX0_get_33 ?_
        refine lv_iload hx hb dX0_get_36 (lv_at hl 0 rfl) ?_
        obtain ⟨o6, hv⟩ := hv
        refine g_ald hx hb G sh_60 o6.1 o6.2 (by decide) dX0_get_38 ?_
        refine lv_goto (tgt := 43) hx hb dX0_get_39 (by decide) ?_
        exact g_iret hx hb hr hlk hz G hv dX0_get_43
abbrev rm_X2_elementEnd : Room := ({ frames := 2, cells := 0, slots := 0, locals := 42 } : Room)
theorem hd_X2_elementEnd : yX2_elementEnd.cls = RX2 ∧ yX2_elementEnd.cls ≠ "java/lang/invoke/MethodHandle" ∧ yX2_elementEnd.cls ≠ "java/lang/invoke/VarHandle" ∧ (parseMethodDescriptor yX2_elementEnd.desc).map (fun d => d.parameters.length) = some 2 := ⟨rfl, by decide +kernel, by decide +kernel, by decide +kernel⟩
set_option maxHeartbeats 4000000 in
set_option maxRecDepth 100000 in
theorem c_X2_elementEnd (l : Launch) (w : GW) (σ : St) (sz : Nat) (x1 x2 : Int) (hp : pre_X2_elementEnd x1 x2 σ) : Met l yX2_elementEnd (Cond.code yX2_elementEnd cX2_elementEnd 3 (some .int) :: wsL_law) rm_X2_elementEnd (gPc w gSL σ sz [.ref (gad w 52), .int (iz x1), .int (iz x2)]) (gQi w gSL sz (post_X2_elementEnd x1 x2 σ)) 0 0 (gA w gSL.length sz) := by
  have hv : V_X2_elementEnd x1 x2 σ (post_X2_elementEnd x1 x2 σ) := v_X2_elementEnd x1 x2 σ hp
  refine g_met (by decide) [.ref (gad w 52), .int (iz x1), .int (iz x2)] (Nat.le_of_ble_eq_true rfl) ?_
  intro p e s m below meth c ls hz C0 hl G
  obtain ⟨hx, hb, hr, hml, hown, hts, hlk, hNw, hA⟩ := id C0
  have hown : s.vm.findClass RX2 = some m.cls := hown
  have hl : lv_has ls 3 [(0, .ref (gad w 52)), (1, .int (iz x1)), (2, .int (iz x2))] := hl
  refine lv_iload_n hx hb dX2_elementEnd_0 rfl (lv_at hl 1 rfl) ?_
  refine lv_bipush (v := iz 35) hx hb dX2_elementEnd_1 (by decide +kernel) ?_
  obtain ⟨i1, hv⟩ := hv
  refine g_icmp_ne (tgt := 15) hx hb i1 ⟨by decide, by decide⟩ dX2_elementEnd_3 (by decide) (fun c2 => ?_) (fun c2 => ?_)
  · have hv := hv.1 c2
    refine lv_iload_n hx hb dX2_elementEnd_15 rfl (lv_at hl 1 rfl) ?_
    refine lv_bipush (v := iz 64) hx hb dX2_elementEnd_16 (by decide +kernel) ?_
    refine g_icmp_ne (tgt := 30) hx hb i1 ⟨by decide, by decide⟩ dX2_elementEnd_18 (by decide) (fun c3 => ?_) (fun c3 => ?_)
    · have hv := hv.1 c3
      refine lv_iload_n hx hb dX2_elementEnd_30 rfl (lv_at hl 1 rfl) ?_
      obtain ⟨p4, hv⟩ := hv
      refine g_callNi (host := "IslandGrammar") (rest := []) hx hb hml hts hown hNw hA G [.int (iz x1)] (c_X6_isReference l w σ _ x1 p4) (List.mem_of_getElem? (i := 4) rfl) wm_271 wm_2 wm_272 hd_X6_isReference ⟨rfl, rfl, Nat.le_of_ble_eq_true rfl, Nat.le_of_ble_eq_true rfl⟩ rfl hl.1 (Nat.le_of_ble_eq_true rfl) rfl dX2_elementEnd_31 ⟨Nat.zero_le _, Nat.zero_le _⟩ (fun r7 s5 H locs h6 G => ?_)
      obtain ⟨er7, es5⟩ := h6
      rw [es5] at G
      have hv := hv r7 er7
      obtain ⟨i8, hv⟩ := hv
      refine g_if_eq (tgt := 51) hx hb i8 dX2_elementEnd_34 (by decide) (fun c9 => ?_) (fun c9 => ?_)
      · have hv := hv.1 c9
        refine lv_aload_n hx hb dX2_elementEnd_51 rfl (lv_at hl 0 rfl) ?_
        refine g_getR hx hb hts hown 0 1 inlX2 G sh_52 rfl (by decide) rfl wm_76 dX2_elementEnd_52 ?_
        refine lv_iload_n hx hb dX2_elementEnd_55 rfl (lv_at hl 2 rfl) ?_
        obtain ⟨p10, hv⟩ := hv
        refine g_callVi (rest := []) hx hb hml hts hown hNw hA G [.int (iz x2)] (c_X5_textAt l w σ _ x2 p10) sh_1 rfl wm_348 wm_200 wm_201 wm_14 wm_202 hd_X5_textAt ⟨rfl, rfl, Nat.le_of_ble_eq_true rfl, Nat.le_of_ble_eq_true rfl⟩ rfl hl.1 (Nat.le_of_ble_eq_true rfl) rfl dX2_elementEnd_56 ⟨Nat.zero_le _, Nat.zero_le _⟩ (fun r13 s11 H locs h12 G => ?_)
        obtain ⟨er13, es11⟩ := h12
        rw [es11] at G
        have hv := hv r13 er13
        refine lv_iload_n hx hb dX2_elementEnd_59 rfl (lv_at hl 1 rfl) ?_
        obtain ⟨i14, hv⟩ := hv
        refine g_icmp_ne (tgt := 69) hx hb i14 i1 dX2_elementEnd_60 (by decide) (fun c15 => ?_) (fun c15 => ?_)
        · have hv := hv.1 c15
          refine lv_iconst (v := iz (-1)) hx hb dX2_elementEnd_69 rfl ?_
          exact g_iret hx hb hr hlk hz G hv dX2_elementEnd_70
        · have hv := hv.2 c15
          refine lv_iload_n hx hb dX2_elementEnd_63 rfl (lv_at hl 2 rfl) ?_
          refine lv_iconst (v := iz 1) hx hb dX2_elementEnd_64 rfl ?_
          refine g_iadd hx hb dX2_elementEnd_65 ?_
          refine lv_goto (tgt := 70) hx hb dX2_elementEnd_66 (by decide) ?_
          exact g_iret hx hb hr hlk hz G hv dX2_elementEnd_70
      · have hv := hv.2 c9
        refine lv_aload_n hx hb dX2_elementEnd_37 rfl (lv_at hl 0 rfl) ?_
        refine g_getR hx hb hts hown 4 59 inlX2 G sh_52 rfl (by decide) rfl wm_75 dX2_elementEnd_38 ?_
        refine lv_iload_n hx hb dX2_elementEnd_41 rfl (lv_at hl 1 rfl) ?_
        refine lv_bipush (v := iz 65) hx hb dX2_elementEnd_42 (by decide +kernel) ?_
        refine g_isub hx hb dX2_elementEnd_44 ?_
        refine lv_iconst (v := iz 0) hx hb dX2_elementEnd_45 rfl ?_
        refine lv_iload_n hx hb dX2_elementEnd_46 rfl (lv_at hl 2 rfl) ?_
        obtain ⟨p16, hv⟩ := hv
        refine g_callVi (rest := []) hx hb hml hts hown hNw hA G [.int (iz (x1 - 65)), .int (iz 0), .int (iz x2)] (c_X0_get l w σ _ (x1 - 65) 0 x2 p16) sh_59 rfl wm_368 wm_369 wm_370 wm_74 wm_371 hd_X0_get ⟨rfl, rfl, Nat.le_of_ble_eq_true rfl, Nat.le_of_ble_eq_true rfl⟩ rfl hl.1 (Nat.le_of_ble_eq_true rfl) rfl dX2_elementEnd_47 ⟨Nat.zero_le _, Nat.zero_le _⟩ (fun r19 s17 H locs h18 G => ?_)
        obtain ⟨er19, es17⟩ := h18
        rw [es17] at G
        have hv := hv r19 er19
        exact g_iret hx hb hr hlk hz G hv dX2_elementEnd_50
    · have hv := hv.2 c3
      refine lv_aload_n hx hb dX2_elementEnd_21 rfl (lv_at hl 0 rfl) ?_
      refine g_getR hx hb hts hown 2 55 inlX2 G sh_52 rfl (by decide) rfl wm_70 dX2_elementEnd_22 ?_
      refine lv_iload_n hx hb dX2_elementEnd_25 rfl (lv_at hl 2 rfl) ?_
      obtain ⟨p20, hv⟩ := hv
      refine g_callVi (rest := []) hx hb hml hts hown hNw hA G [.int (iz x2)] (c_X4_get l w σ _ 55 101 ⟨sh_55, sh_56⟩ x2 p20) sh_55 rfl wm_354 wm_134 wm_135 wm_22 wm_136 hd_X4_get ⟨rfl, rfl, Nat.le_of_ble_eq_true rfl, Nat.le_of_ble_eq_true rfl⟩ rfl hl.1 (Nat.le_of_ble_eq_true rfl) rfl dX2_elementEnd_26 ⟨Nat.zero_le _, Nat.zero_le _⟩ (fun r23 s21 H locs h22 G => ?_)
      obtain ⟨er23, es21⟩ := h22
      rw [es21] at G
      have hv := hv r23 er23
      exact g_iret hx hb hr hlk hz G hv dX2_elementEnd_29
  · have hv := hv.2 c2
    refine lv_aload_n hx hb dX2_elementEnd_6 rfl (lv_at hl 0 rfl) ?_
    refine g_getR hx hb hts hown 1 53 inlX2 G sh_52 rfl (by decide) rfl wm_69 dX2_elementEnd_7 ?_
    refine lv_iload_n hx hb dX2_elementEnd_10 rfl (lv_at hl 2 rfl) ?_
    obtain ⟨p24, hv⟩ := hv
    refine g_callVi (rest := []) hx hb hml hts hown hNw hA G [.int (iz x2)] (c_X4_get l w σ _ 53 101 ⟨sh_53, sh_54⟩ x2 p24) sh_53 rfl wm_354 wm_134 wm_135 wm_22 wm_136 hd_X4_get ⟨rfl, rfl, Nat.le_of_ble_eq_true rfl, Nat.le_of_ble_eq_true rfl⟩ rfl hl.1 (Nat.le_of_ble_eq_true rfl) rfl dX2_elementEnd_11 ⟨Nat.zero_le _, Nat.zero_le _⟩ (fun r27 s25 H locs h26 G => ?_)
    obtain ⟨er27, es25⟩ := h26
    rw [es25] at G
    have hv := hv r27 er27
    exact g_iret hx hb hr hlk hz G hv dX2_elementEnd_14
abbrev rm_X0_set : Room := ({ frames := 0, cells := 0, slots := 0, locals := 0 } : Room)
theorem hd_X0_set : yX0_set.cls = RX0 ∧ yX0_set.cls ≠ "java/lang/invoke/MethodHandle" ∧ yX0_set.cls ≠ "java/lang/invoke/VarHandle" ∧ (parseMethodDescriptor yX0_set.desc).map (fun d => d.parameters.length) = some 4 := ⟨rfl, by decide +kernel, by decide +kernel, by decide +kernel⟩
set_option maxHeartbeats 4000000 in
set_option maxRecDepth 100000 in
theorem c_X0_set (l : Launch) (w : GW) (σ : St) (sz : Nat) (x1 x2 x3 x4 : Int) (hp : pre_X0_set x1 x2 x3 x4 σ) : Met l yX0_set (Cond.code yX0_set cX0_set 6 none :: wsL_law) rm_X0_set (gPc w gSL σ sz [.ref (gad w 59), .int (iz x1), .int (iz x2), .int (iz x3), .int (iz x4)]) (gQv w gSL sz (post_X0_set x1 x2 x3 x4 σ)) 0 0 (gA w gSL.length sz) := by
  have hv : V_X0_set x1 x2 x3 x4 σ (post_X0_set x1 x2 x3 x4 σ) := v_X0_set x1 x2 x3 x4 σ hp
  refine g_met (by decide) [.ref (gad w 59), .int (iz x1), .int (iz x2), .int (iz x3), .int (iz x4)] (Nat.le_of_ble_eq_true rfl) ?_
  intro p e s m below meth c ls hz C0 hl G
  obtain ⟨hx, hb, hr, hml, hown, hts, hlk, hNw, hA⟩ := id C0
  have hown : s.vm.findClass RX0 = some m.cls := hown
  have hl : lv_has ls 6 [(0, .ref (gad w 59)), (1, .int (iz x1)), (2, .int (iz x2)), (3, .int (iz x3)), (4, .int (iz x4))] := hl
  refine lv_iload_n hx hb dX0_set_0 rfl (lv_at hl 1 rfl) ?_
  refine lv_bipush (v := iz 9) hx hb dX0_set_1 (by decide +kernel) ?_
  refine g_imul hx hb dX0_set_3 ?_
  refine lv_iload_n hx hb dX0_set_4 rfl (lv_at hl 2 rfl) ?_
  refine g_iadd hx hb dX0_set_5 ?_
  refine lv_bipush (v := iz 101) hx hb dX0_set_6 (by decide +kernel) ?_
  refine g_imul hx hb dX0_set_8 ?_
  refine lv_iload_n hx hb dX0_set_9 rfl (lv_at hl 3 rfl) ?_
  refine g_iadd hx hb dX0_set_10 ?_
  refine lv_istore (lv' := [(5, .int (iz ((((x1 * 9) + x2) * 101) + x3))), (0, .ref (gad w 59)), (1, .int (iz x1)), (2, .int (iz x2)), (3, .int (iz x3)), (4, .int (iz x4))]) hx hb dX0_set_11 hl (by decide) rfl (fun ls hl => ?_)
  refine lv_iload_n hx hb dX0_set_13 rfl (lv_at hl 4 rfl) ?_
  obtain ⟨i1, hv⟩ := hv
  refine g_if_lt (tgt := 41) hx hb i1 dX0_set_14 (by decide) (fun c2 => ?_) (fun c2 => ?_)
  · have hv := hv.1 c2
    exact g_vret hx hb hr hlk hz G hv dX0_set_41
  · have hv := hv.2 c2
    refine lv_iload hx hb dX0_set_17 (lv_at hl 0 rfl) ?_
    obtain ⟨i3, hv⟩ := hv
    refine g_if_lt (tgt := 41) hx hb i3 dX0_set_19 (by decide) (fun c4 => ?_) (fun c4 => ?_)
    · have hv := hv.1 c4
      exact g_vret hx hb hr hlk hz G hv dX0_set_41
    · have hv := hv.2 c4
      refine lv_iload hx hb dX0_set_22 (lv_at hl 0 rfl) ?_
      refine lv_aload_n hx hb dX0_set_24 rfl (lv_at hl 1 rfl) ?_
      refine g_getR hx hb hts hown 0 60 inlX0 G sh_59 rfl (by decide) rfl wm_81 dX0_set_25 ?_
      refine g_alen hx hb G sh_60 dX0_set_28 ?_
      refine g_icmp_ge (tgt := 41) hx hb i3 ⟨by decide, by decide⟩ dX0_set_29 (by decide) (fun c5 => ?_) (fun c5 => ?_)
      · have hv := hv.1 c5
        exact g_vret hx hb hr hlk hz G hv dX0_set_41
      · have hv := hv.2 c5
        refine lv_aload_n hx hb dX0_set_32 rfl (lv_at hl 1 rfl) ?_
        refine g_getR hx hb hts hown 0 60 inlX0 G sh_59 rfl (by decide) rfl wm_81 dX0_set_33 ?_
        refine lv_iload hx hb dX0_set_36 (lv_at hl 0 rfl) ?_
        refine lv_iload hx hb dX0_set_38 (lv_at hl 5 rfl) ?_
        obtain ⟨o6, hv⟩ := hv
        refine g_ast hx hb G sh_60 o6.1 o6.2 (by decide) dX0_set_40 (fun s7 es7 H locs G => ?_)
        have hv := hv s7 es7
        exact g_vret hx hb hr hlk hz G hv dX0_set_41
abbrev rm_X2_matchIslands : Room := ({ frames := 3, cells := 0, slots := 0, locals := 64 } : Room)
theorem hd_X2_matchIslands : yX2_matchIslands.cls = RX2 ∧ yX2_matchIslands.cls ≠ "java/lang/invoke/MethodHandle" ∧ yX2_matchIslands.cls ≠ "java/lang/invoke/VarHandle" ∧ (parseMethodDescriptor yX2_matchIslands.desc).map (fun d => d.parameters.length) = some 1 := ⟨rfl, by decide +kernel, by decide +kernel, by decide +kernel⟩
set_option maxHeartbeats 4000000 in
set_option maxRecDepth 100000 in
theorem lw_X2_matchIslands_11 {p : Program} {l : Launch} {e : Env} {s : State} {m : MethodId} {args : Array Value} {below : List Frame} {meth : Method} {c : Code} {w : GW} {sz : Nat} (hz : s.heap.size = sz) (C0 : gC p s m args meth c cX2_matchIslands none 5 yX2_matchIslands.cls (gA w gSL.length sz)) (Q : St → Prop) (y1 : Int) : ∀ (n : Nat) (y2 : Int) (σ : St) (H : Heap) (locs : List Loc) (ls : Array Slot), L_X2_matchIslands_11 Q y1 n y2 σ → gS w gSL σ (gA w gSL.length sz) s s.heap H locs → lv_has ls 5 [(0, .ref (gad w 52)), (1, .int (iz y1)), (2, .int (iz y2))] → W p l e rm_X2_matchIslands s m args below meth c H locs 0 0 (MQ below (gQv w gSL sz Q) args s 0 0 (gA w gSL.length sz)) (F0 m 11 ls []) := by
  obtain ⟨hx, hb, hr, hml, hown, hts, hlk, hNw, hA⟩ := id C0
  have hown : s.vm.findClass RX2 = some m.cls := hown
  intro n
  induction n with
  | zero => intro y2 σ H locs ls hv; exact hv.elim
  | succ n ih =>
    intro y2 σ H locs ls hv G hl
    refine lv_iload_n hx hb dX2_matchIslands_11 rfl (lv_at hl 2 rfl) ?_
    obtain ⟨i4, hv⟩ := hv
    refine g_if_lt (tgt := 87) hx hb i4 dX2_matchIslands_12 (by decide) (fun c5 => ?_) (fun c5 => ?_)
    · have hv := hv.1 c5
      exact g_vret hx hb hr hlk hz G hv dX2_matchIslands_87
    · have hv := hv.2 c5
      refine lv_iconst (v := iz (-1)) hx hb dX2_matchIslands_15 rfl ?_
      refine lv_istore_n (lv' := [(3, .int (iz (-1))), (0, .ref (gad w 52)), (1, .int (iz y1)), (2, .int (iz y2))]) hx hb dX2_matchIslands_16 rfl hl (by decide) rfl (fun ls hl => ?_)
      refine lv_aload_n hx hb dX2_matchIslands_17 rfl (lv_at hl 1 rfl) ?_
      refine g_getR hx hb hts hown 0 1 inlX2 G sh_52 rfl (by decide) rfl wm_76 dX2_matchIslands_18 ?_
      refine lv_iload_n hx hb dX2_matchIslands_21 rfl (lv_at hl 3 rfl) ?_
      obtain ⟨p6, hv⟩ := hv
      refine g_callVi (rest := []) hx hb hml hts hown hNw hA G [.int (iz y2)] (c_X5_patternSize l w σ _ y2 p6) sh_1 rfl wm_362 wm_292 wm_293 wm_14 wm_294 hd_X5_patternSize ⟨rfl, rfl, Nat.le_of_ble_eq_true rfl, Nat.le_of_ble_eq_true rfl⟩ rfl hl.1 (Nat.le_of_ble_eq_true rfl) rfl dX2_matchIslands_22 ⟨Nat.zero_le _, Nat.zero_le _⟩ (fun r9 s7 H locs h8 G => ?_)
      obtain ⟨er9, es7⟩ := h8
      rw [es7] at G
      have hv := hv r9 er9
      obtain ⟨i10, hv⟩ := hv
      refine g_if_le (tgt := 56) hx hb i10 dX2_matchIslands_25 (by decide) (fun c11 => ?_) (fun c11 => ?_)
      · have hv := hv.1 c11
        refine lv_aload_n hx hb dX2_matchIslands_56 rfl (lv_at hl 1 rfl) ?_
        refine g_getR hx hb hts hown 4 59 inlX2 G sh_52 rfl (by decide) rfl wm_75 dX2_matchIslands_57 ?_
        refine lv_iload_n hx hb dX2_matchIslands_60 rfl (lv_at hl 3 rfl) ?_
        refine lv_iconst (v := iz 0) hx hb dX2_matchIslands_61 rfl ?_
        refine lv_iload_n hx hb dX2_matchIslands_62 rfl (lv_at hl 2 rfl) ?_
        refine lv_iload_n hx hb dX2_matchIslands_63 rfl (lv_at hl 0 rfl) ?_
        obtain ⟨p12, hv⟩ := hv
        refine g_callVv (rest := []) hx hb hml hts hown hNw hA G [.int (iz y2), .int (iz 0), .int (iz y1), .int (iz (-1))] (c_X0_set l w σ _ y2 0 y1 (-1) p12) sh_59 rfl wm_372 wm_373 wm_374 wm_74 wm_375 hd_X0_set ⟨rfl, rfl, Nat.le_of_ble_eq_true rfl, Nat.le_of_ble_eq_true rfl⟩ rfl hl.1 (Nat.le_of_ble_eq_true rfl) rfl dX2_matchIslands_64 ⟨Nat.zero_le _, Nat.zero_le _⟩ (fun s13 H locs h14 G => ?_)
        have hv := hv s13 h14
        refine lv_iload_n hx hb dX2_matchIslands_67 rfl (lv_at hl 0 rfl) ?_
        refine lv_iconst (v := iz (-1)) hx hb dX2_matchIslands_68 rfl ?_
        refine g_icmp_eq (tgt := 81) hx hb ⟨by decide, by decide⟩ ⟨by decide, by decide⟩ dX2_matchIslands_69 (by decide) (fun _ => ?_) (fun c => absurd c (by decide))
        refine g_iinc (k := 3) (x := y2) (n := (-1)) (lv' := [(2, .int (iz (y2 + (-1)))), (3, .int (iz (-1))), (0, .ref (gad w 52)), (1, .int (iz y1))]) hx hb dX2_matchIslands_81 hl rfl (by decide) rfl (fun ls hl => ?_)
        refine lv_goto (tgt := 11) hx hb dX2_matchIslands_84 (by decide) ?_
        exact ih _ _ _ _ _ hv G (lv_sub hl [2, 3, 0] rfl)
      · have hv := hv.2 c11
        refine lv_aload_n hx hb dX2_matchIslands_28 rfl (lv_at hl 1 rfl) ?_
        refine lv_aload_n hx hb dX2_matchIslands_29 rfl (lv_at hl 1 rfl) ?_
        refine g_getR hx hb hts hown 0 1 inlX2 G sh_52 rfl (by decide) rfl wm_76 dX2_matchIslands_30 ?_
        refine lv_iload_n hx hb dX2_matchIslands_33 rfl (lv_at hl 3 rfl) ?_
        refine lv_iconst (v := iz 0) hx hb dX2_matchIslands_34 rfl ?_
        obtain ⟨p15, hv⟩ := hv
        refine g_callVi (rest := [.ref (gad w 52)]) hx hb hml hts hown hNw hA G [.int (iz y2), .int (iz 0)] (c_X5_patternAt l w σ _ y2 0 p15) sh_1 rfl wm_363 wm_320 wm_321 wm_14 wm_322 hd_X5_patternAt ⟨rfl, rfl, Nat.le_of_ble_eq_true rfl, Nat.le_of_ble_eq_true rfl⟩ rfl hl.1 (Nat.le_of_ble_eq_true rfl) rfl dX2_matchIslands_35 ⟨Nat.zero_le _, Nat.zero_le _⟩ (fun r18 s16 H locs h17 G => ?_)
        obtain ⟨er18, es16⟩ := h17
        rw [es16] at G
        have hv := hv r18 er18
        refine lv_iload_n hx hb dX2_matchIslands_38 rfl (lv_at hl 2 rfl) ?_
        obtain ⟨p19, hv⟩ := hv
        refine g_callVi (rest := []) hx hb hml hts hown hNw hA G [.int (iz r18), .int (iz y1)] (c_X2_elementEnd l w σ _ r18 y1 p19) sh_52 rfl wm_364 wm_365 wm_366 wm_27 wm_367 hd_X2_elementEnd ⟨rfl, rfl, Nat.le_of_ble_eq_true rfl, Nat.le_of_ble_eq_true rfl⟩ rfl hl.1 (Nat.le_of_ble_eq_true rfl) rfl dX2_matchIslands_39 ⟨Nat.zero_le _, Nat.zero_le _⟩ (fun r22 s20 H locs h21 G => ?_)
        obtain ⟨er22, es20⟩ := h21
        rw [es20] at G
        have hv := hv r22 er22
        refine lv_istore (lv' := [(4, .int (iz r22)), (3, .int (iz (-1))), (0, .ref (gad w 52)), (1, .int (iz y1)), (2, .int (iz y2))]) hx hb dX2_matchIslands_42 hl (by decide) rfl (fun ls hl => ?_)
        refine lv_aload_n hx hb dX2_matchIslands_44 rfl (lv_at hl 2 rfl) ?_
        refine g_getR hx hb hts hown 4 59 inlX2 G sh_52 rfl (by decide) rfl wm_75 dX2_matchIslands_45 ?_
        refine lv_iload_n hx hb dX2_matchIslands_48 rfl (lv_at hl 4 rfl) ?_
        refine lv_iconst (v := iz 1) hx hb dX2_matchIslands_49 rfl ?_
        refine lv_iload hx hb dX2_matchIslands_50 (lv_at hl 0 rfl) ?_
        obtain ⟨p23, hv⟩ := hv
        refine g_callVi (rest := []) hx hb hml hts hown hNw hA G [.int (iz y2), .int (iz 1), .int (iz r22)] (c_X0_get l w σ _ y2 1 r22 p23) sh_59 rfl wm_368 wm_369 wm_370 wm_74 wm_371 hd_X0_get ⟨rfl, rfl, Nat.le_of_ble_eq_true rfl, Nat.le_of_ble_eq_true rfl⟩ rfl hl.1 (Nat.le_of_ble_eq_true rfl) rfl dX2_matchIslands_52 ⟨Nat.zero_le _, Nat.zero_le _⟩ (fun r26 s24 H locs h25 G => ?_)
        obtain ⟨er26, es24⟩ := h25
        rw [es24] at G
        have hv := hv r26 er26
        refine lv_istore_n (lv' := [(3, .int (iz r26)), (4, .int (iz r22)), (0, .ref (gad w 52)), (1, .int (iz y1)), (2, .int (iz y2))]) hx hb dX2_matchIslands_55 rfl hl (by decide) rfl (fun ls hl => ?_)
        refine lv_aload_n hx hb dX2_matchIslands_56 rfl (lv_at hl 2 rfl) ?_
        refine g_getR hx hb hts hown 4 59 inlX2 G sh_52 rfl (by decide) rfl wm_75 dX2_matchIslands_57 ?_
        refine lv_iload_n hx hb dX2_matchIslands_60 rfl (lv_at hl 4 rfl) ?_
        refine lv_iconst (v := iz 0) hx hb dX2_matchIslands_61 rfl ?_
        refine lv_iload_n hx hb dX2_matchIslands_62 rfl (lv_at hl 3 rfl) ?_
        refine lv_iload_n hx hb dX2_matchIslands_63 rfl (lv_at hl 0 rfl) ?_
        obtain ⟨p27, hv⟩ := hv
        refine g_callVv (rest := []) hx hb hml hts hown hNw hA G [.int (iz y2), .int (iz 0), .int (iz y1), .int (iz r26)] (c_X0_set l w σ _ y2 0 y1 r26 p27) sh_59 rfl wm_372 wm_373 wm_374 wm_74 wm_375 hd_X0_set ⟨rfl, rfl, Nat.le_of_ble_eq_true rfl, Nat.le_of_ble_eq_true rfl⟩ rfl hl.1 (Nat.le_of_ble_eq_true rfl) rfl dX2_matchIslands_64 ⟨Nat.zero_le _, Nat.zero_le _⟩ (fun s28 H locs h29 G => ?_)
        have hv := hv s28 h29
        refine lv_iload_n hx hb dX2_matchIslands_67 rfl (lv_at hl 0 rfl) ?_
        refine lv_iconst (v := iz (-1)) hx hb dX2_matchIslands_68 rfl ?_
        obtain ⟨i30, hv⟩ := hv
        refine g_icmp_eq (tgt := 81) hx hb i30 ⟨by decide, by decide⟩ dX2_matchIslands_69 (by decide) (fun c31 => ?_) (fun c31 => ?_)
        · have hv := hv.1 c31
          refine g_iinc (k := 4) (x := y2) (n := (-1)) (lv' := [(2, .int (iz (y2 + (-1)))), (3, .int (iz r26)), (4, .int (iz r22)), (0, .ref (gad w 52)), (1, .int (iz y1))]) hx hb dX2_matchIslands_81 hl rfl (by decide) rfl (fun ls hl => ?_)
          refine lv_goto (tgt := 11) hx hb dX2_matchIslands_84 (by decide) ?_
          exact ih _ _ _ _ _ hv G (lv_sub hl [3, 4, 0] rfl)
        · have hv := hv.2 c31
          refine lv_aload_n hx hb dX2_matchIslands_72 rfl (lv_at hl 2 rfl) ?_
          refine g_getR hx hb hts hown 3 57 inlX2 G sh_52 rfl (by decide) rfl wm_71 dX2_matchIslands_73 ?_
          refine lv_iload_n hx hb dX2_matchIslands_76 rfl (lv_at hl 3 rfl) ?_
          refine lv_iload_n hx hb dX2_matchIslands_77 rfl (lv_at hl 4 rfl) ?_
          obtain ⟨p32, hv⟩ := hv
          refine g_callVv (rest := []) hx hb hml hts hown hNw hA G [.int (iz y1), .int (iz y2)] (c_X4_set l w s28 _ 57 101 ⟨sh_57, sh_58⟩ y1 y2 p32) sh_57 rfl wm_355 wm_138 wm_139 wm_22 wm_140 hd_X4_set ⟨rfl, rfl, Nat.le_of_ble_eq_true rfl, Nat.le_of_ble_eq_true rfl⟩ rfl hl.1 (Nat.le_of_ble_eq_true rfl) rfl dX2_matchIslands_78 ⟨Nat.zero_le _, Nat.zero_le _⟩ (fun s33 H locs h34 G => ?_)
          have hv := hv s33 h34
          refine g_iinc (k := 4) (x := y2) (n := (-1)) (lv' := [(2, .int (iz (y2 + (-1)))), (3, .int (iz r26)), (4, .int (iz r22)), (0, .ref (gad w 52)), (1, .int (iz y1))]) hx hb dX2_matchIslands_81 hl rfl (by decide) rfl (fun ls hl => ?_)
          refine lv_goto (tgt := 11) hx hb dX2_matchIslands_84 (by decide) ?_
          exact ih _ _ _ _ _ hv G (lv_sub hl [3, 4, 0] rfl)
set_option maxHeartbeats 4000000 in
set_option maxRecDepth 100000 in
theorem c_X2_matchIslands (l : Launch) (w : GW) (σ : St) (sz : Nat) (x1 : Int) (hp : pre_X2_matchIslands x1 σ) : Met l yX2_matchIslands (Cond.code yX2_matchIslands cX2_matchIslands 5 none :: wsL_law) rm_X2_matchIslands (gPc w gSL σ sz [.ref (gad w 52), .int (iz x1)]) (gQv w gSL sz (post_X2_matchIslands x1 σ)) 0 0 (gA w gSL.length sz) := by
  have hv : V_X2_matchIslands x1 σ (post_X2_matchIslands x1 σ) := v_X2_matchIslands x1 σ hp
  refine g_met (by decide) [.ref (gad w 52), .int (iz x1)] (Nat.le_of_ble_eq_true rfl) ?_
  intro p e s m below meth c ls hz C0 hl G
  obtain ⟨hx, hb, hr, hml, hown, hts, hlk, hNw, hA⟩ := id C0
  have hown : s.vm.findClass RX2 = some m.cls := hown
  have hl : lv_has ls 5 [(0, .ref (gad w 52)), (1, .int (iz x1))] := hl
  refine lv_aload_n hx hb dX2_matchIslands_0 rfl (lv_at hl 0 rfl) ?_
  refine g_getR hx hb hts hown 3 57 inlX2 G sh_52 rfl (by decide) rfl wm_71 dX2_matchIslands_1 ?_
  refine lv_iload_n hx hb dX2_matchIslands_4 rfl (lv_at hl 1 rfl) ?_
  refine lv_iconst (v := iz (-1)) hx hb dX2_matchIslands_5 rfl ?_
  obtain ⟨p1, hv⟩ := hv
  refine g_callVv (rest := []) hx hb hml hts hown hNw hA G [.int (iz x1), .int (iz (-1))] (c_X4_set l w σ _ 57 101 ⟨sh_57, sh_58⟩ x1 (-1) p1) sh_57 rfl wm_355 wm_138 wm_139 wm_22 wm_140 hd_X4_set ⟨rfl, rfl, Nat.le_of_ble_eq_true rfl, Nat.le_of_ble_eq_true rfl⟩ rfl hl.1 (Nat.le_of_ble_eq_true rfl) rfl dX2_matchIslands_6 ⟨Nat.zero_le _, Nat.zero_le _⟩ (fun s2 H locs h3 G => ?_)
  have hv := hv s2 h3
  refine lv_iconst (v := iz 5) hx hb dX2_matchIslands_9 rfl ?_
  refine lv_istore_n (lv' := [(2, .int (iz 5)), (0, .ref (gad w 52)), (1, .int (iz x1))]) hx hb dX2_matchIslands_10 rfl hl (by decide) rfl (fun ls hl => ?_)
  obtain ⟨n_, hv⟩ := hv
  exact lw_X2_matchIslands_11 (l := l) (p := p) (e := e) hz C0 _ x1 n_ _ _ _ _ _ hv G (lv_sub hl [1, 2, 0] rfl)
abbrev rm_X2_waterRestEnd : Room := ({ frames := 2, cells := 0, slots := 0, locals := 42 } : Room)
theorem hd_X2_waterRestEnd : yX2_waterRestEnd.cls = RX2 ∧ yX2_waterRestEnd.cls ≠ "java/lang/invoke/MethodHandle" ∧ yX2_waterRestEnd.cls ≠ "java/lang/invoke/VarHandle" ∧ (parseMethodDescriptor yX2_waterRestEnd.desc).map (fun d => d.parameters.length) = some 3 := ⟨rfl, by decide +kernel, by decide +kernel, by decide +kernel⟩
set_option maxHeartbeats 4000000 in
set_option maxRecDepth 100000 in
theorem c_X2_waterRestEnd (l : Launch) (w : GW) (σ : St) (sz : Nat) (x1 x2 x3 : Int) (hp : pre_X2_waterRestEnd x1 x2 x3 σ) : Met l yX2_waterRestEnd (Cond.code yX2_waterRestEnd cX2_waterRestEnd 7 (some .int) :: wsL_law) rm_X2_waterRestEnd (gPc w gSL σ sz [.ref (gad w 52), .int (iz x1), .int (iz x2), .int (iz x3)]) (gQi w gSL sz (post_X2_waterRestEnd x1 x2 x3 σ)) 0 0 (gA w gSL.length sz) := by
  have hv : V_X2_waterRestEnd x1 x2 x3 σ (post_X2_waterRestEnd x1 x2 x3 σ) := v_X2_waterRestEnd x1 x2 x3 σ hp
  refine g_met (by decide) [.ref (gad w 52), .int (iz x1), .int (iz x2), .int (iz x3)] (Nat.le_of_ble_eq_true rfl) ?_
  intro p e s m below meth c ls hz C0 hl G
  obtain ⟨hx, hb, hr, hml, hown, hts, hlk, hNw, hA⟩ := id C0
  have hown : s.vm.findClass RX2 = some m.cls := hown
  have hl : lv_has ls 7 [(0, .ref (gad w 52)), (1, .int (iz x1)), (2, .int (iz x2)), (3, .int (iz x3))] := hl
  refine lv_aload_n hx hb dX2_waterRestEnd_0 rfl (lv_at hl 0 rfl) ?_
  refine g_getR hx hb hts hown 4 59 inlX2 G sh_52 rfl (by decide) rfl wm_75 dX2_waterRestEnd_1 ?_
  refine lv_iload_n hx hb dX2_waterRestEnd_4 rfl (lv_at hl 1 rfl) ?_
  refine lv_iload_n hx hb dX2_waterRestEnd_5 rfl (lv_at hl 2 rfl) ?_
  refine lv_iconst (v := iz 1) hx hb dX2_waterRestEnd_6 rfl ?_
  refine g_iadd hx hb dX2_waterRestEnd_7 ?_
  refine lv_iload_n hx hb dX2_waterRestEnd_8 rfl (lv_at hl 3 rfl) ?_
  obtain ⟨p1, hv⟩ := hv
  refine g_callVi (rest := []) hx hb hml hts hown hNw hA G [.int (iz x1), .int (iz (x2 + 1)), .int (iz x3)] (c_X0_get l w σ _ x1 (x2 + 1) x3 p1) sh_59 rfl wm_368 wm_369 wm_370 wm_74 wm_371 hd_X0_get ⟨rfl, rfl, Nat.le_of_ble_eq_true rfl, Nat.le_of_ble_eq_true rfl⟩ rfl hl.1 (Nat.le_of_ble_eq_true rfl) rfl dX2_waterRestEnd_9 ⟨Nat.zero_le _, Nat.zero_le _⟩ (fun r4 s2 H locs h3 G => ?_)
  obtain ⟨er4, es2⟩ := h3
  rw [es2] at G
  have hv := hv r4 er4
  refine lv_istore (lv' := [(4, .int (iz r4)), (0, .ref (gad w 52)), (1, .int (iz x1)), (2, .int (iz x2)), (3, .int (iz x3))]) hx hb dX2_waterRestEnd_12 hl (by decide) rfl (fun ls hl => ?_)
  refine lv_iload hx hb dX2_waterRestEnd_14 (lv_at hl 0 rfl) ?_
  refine lv_iconst (v := iz (-1)) hx hb dX2_waterRestEnd_16 rfl ?_
  obtain ⟨i5, hv⟩ := hv
  refine g_icmp_eq (tgt := 23) hx hb i5 ⟨by decide, by decide⟩ dX2_waterRestEnd_17 (by decide) (fun c6 => ?_) (fun c6 => ?_)
  · have hv := hv.1 c6
    refine lv_aload_n hx hb dX2_waterRestEnd_23 rfl (lv_at hl 1 rfl) ?_
    refine g_getR hx hb hts hown 3 57 inlX2 G sh_52 rfl (by decide) rfl wm_71 dX2_waterRestEnd_24 ?_
    refine lv_iload_n hx hb dX2_waterRestEnd_27 rfl (lv_at hl 4 rfl) ?_
    obtain ⟨p7, hv⟩ := hv
    refine g_callVi (rest := []) hx hb hml hts hown hNw hA G [.int (iz x3)] (c_X4_get l w σ _ 57 101 ⟨sh_57, sh_58⟩ x3 p7) sh_57 rfl wm_354 wm_134 wm_135 wm_22 wm_136 hd_X4_get ⟨rfl, rfl, Nat.le_of_ble_eq_true rfl, Nat.le_of_ble_eq_true rfl⟩ rfl hl.1 (Nat.le_of_ble_eq_true rfl) rfl dX2_waterRestEnd_28 ⟨Nat.zero_le _, Nat.zero_le _⟩ (fun r10 s8 H locs h9 G => ?_)
    obtain ⟨er10, es8⟩ := h9
    rw [es8] at G
    have hv := hv r10 er10
    refine lv_istore (lv' := [(5, .int (iz r10)), (4, .int (iz r4)), (0, .ref (gad w 52)), (1, .int (iz x1)), (2, .int (iz x2)), (3, .int (iz x3))]) hx hb dX2_waterRestEnd_31 hl (by decide) rfl (fun ls hl => ?_)
    refine lv_iload hx hb dX2_waterRestEnd_33 (lv_at hl 0 rfl) ?_
    refine lv_iconst (v := iz (-1)) hx hb dX2_waterRestEnd_35 rfl ?_
    obtain ⟨i11, hv⟩ := hv
    refine g_icmp_eq (tgt := 60) hx hb i11 ⟨by decide, by decide⟩ dX2_waterRestEnd_36 (by decide) (fun c12 => ?_) (fun c12 => ?_)
    · have hv := hv.1 c12
      refine lv_aload_n hx hb dX2_waterRestEnd_60 rfl (lv_at hl 2 rfl) ?_
      refine g_getR hx hb hts hown 0 1 inlX2 G sh_52 rfl (by decide) rfl wm_76 dX2_waterRestEnd_61 ?_
      refine lv_iload_n hx hb dX2_waterRestEnd_64 rfl (lv_at hl 5 rfl) ?_
      obtain ⟨p13, hv⟩ := hv
      refine g_callVi (rest := []) hx hb hml hts hown hNw hA G [.int (iz x3)] (c_X5_textAt l w σ _ x3 p13) sh_1 rfl wm_348 wm_200 wm_201 wm_14 wm_202 hd_X5_textAt ⟨rfl, rfl, Nat.le_of_ble_eq_true rfl, Nat.le_of_ble_eq_true rfl⟩ rfl hl.1 (Nat.le_of_ble_eq_true rfl) rfl dX2_waterRestEnd_65 ⟨Nat.zero_le _, Nat.zero_le _⟩ (fun r16 s14 H locs h15 G => ?_)
      obtain ⟨er16, es14⟩ := h15
      rw [es14] at G
      have hv := hv r16 er16
      refine lv_istore (lv' := [(6, .int (iz r16)), (5, .int (iz r10)), (4, .int (iz r4)), (0, .ref (gad w 52)), (1, .int (iz x1)), (2, .int (iz x2)), (3, .int (iz x3))]) hx hb dX2_waterRestEnd_68 hl (by decide) rfl (fun ls hl => ?_)
      refine lv_iload hx hb dX2_waterRestEnd_70 (lv_at hl 0 rfl) ?_
      refine lv_iconst (v := iz (-1)) hx hb dX2_waterRestEnd_72 rfl ?_
      obtain ⟨i17, hv⟩ := hv
      refine g_icmp_eq (tgt := 89) hx hb i17 ⟨by decide, by decide⟩ dX2_waterRestEnd_73 (by decide) (fun c18 => ?_) (fun c18 => ?_)
      · have hv := hv.1 c18
        refine lv_iconst (v := iz (-1)) hx hb dX2_waterRestEnd_89 rfl ?_
        exact g_iret hx hb hr hlk hz G hv dX2_waterRestEnd_90
      · have hv := hv.2 c18
        refine lv_iload hx hb dX2_waterRestEnd_76 (lv_at hl 0 rfl) ?_
        refine lv_aload_n hx hb dX2_waterRestEnd_78 rfl (lv_at hl 3 rfl) ?_
        refine g_getR hx hb hts hown 0 1 inlX2 G sh_52 rfl (by decide) rfl wm_76 dX2_waterRestEnd_79 ?_
        refine lv_iload_n hx hb dX2_waterRestEnd_82 rfl (lv_at hl 4 rfl) ?_
        obtain ⟨p19, hv⟩ := hv
        refine g_callVi (rest := [.int (iz r16)]) hx hb hml hts hown hNw hA G [.int (iz x1)] (c_X5_stopOf l w σ _ x1 p19) sh_1 rfl wm_384 wm_304 wm_305 wm_14 wm_306 hd_X5_stopOf ⟨rfl, rfl, Nat.le_of_ble_eq_true rfl, Nat.le_of_ble_eq_true rfl⟩ rfl hl.1 (Nat.le_of_ble_eq_true rfl) rfl dX2_waterRestEnd_83 ⟨Nat.zero_le _, Nat.zero_le _⟩ (fun r22 s20 H locs h21 G => ?_)
        obtain ⟨er22, es20⟩ := h21
        rw [es20] at G
        have hv := hv r22 er22
        obtain ⟨i23, hv⟩ := hv
        refine g_icmp_ne (tgt := 91) hx hb i17 i23 dX2_waterRestEnd_86 (by decide) (fun c24 => ?_) (fun c24 => ?_)
        · have hv := hv.1 c24
          refine lv_aload_n hx hb dX2_waterRestEnd_91 rfl (lv_at hl 3 rfl) ?_
          refine g_getR hx hb hts hown 4 59 inlX2 G sh_52 rfl (by decide) rfl wm_75 dX2_waterRestEnd_92 ?_
          refine lv_iload_n hx hb dX2_waterRestEnd_95 rfl (lv_at hl 4 rfl) ?_
          refine lv_iload_n hx hb dX2_waterRestEnd_96 rfl (lv_at hl 5 rfl) ?_
          refine lv_iload_n hx hb dX2_waterRestEnd_97 rfl (lv_at hl 6 rfl) ?_
          refine lv_iconst (v := iz 1) hx hb dX2_waterRestEnd_98 rfl ?_
          refine g_iadd hx hb dX2_waterRestEnd_99 ?_
          obtain ⟨p25, hv⟩ := hv
          refine g_callVi (rest := []) hx hb hml hts hown hNw hA G [.int (iz x1), .int (iz x2), .int (iz (x3 + 1))] (c_X0_get l w σ _ x1 x2 (x3 + 1) p25) sh_59 rfl wm_368 wm_369 wm_370 wm_74 wm_371 hd_X0_get ⟨rfl, rfl, Nat.le_of_ble_eq_true rfl, Nat.le_of_ble_eq_true rfl⟩ rfl hl.1 (Nat.le_of_ble_eq_true rfl) rfl dX2_waterRestEnd_100 ⟨Nat.zero_le _, Nat.zero_le _⟩ (fun r28 s26 H locs h27 G => ?_)
          obtain ⟨er28, es26⟩ := h27
          rw [es26] at G
          have hv := hv r28 er28
          exact g_iret hx hb hr hlk hz G hv dX2_waterRestEnd_103
        · have hv := hv.2 c24
          refine lv_iconst (v := iz (-1)) hx hb dX2_waterRestEnd_89 rfl ?_
          exact g_iret hx hb hr hlk hz G hv dX2_waterRestEnd_90
    · have hv := hv.2 c12
      refine lv_aload_n hx hb dX2_waterRestEnd_39 rfl (lv_at hl 2 rfl) ?_
      refine g_getR hx hb hts hown 4 59 inlX2 G sh_52 rfl (by decide) rfl wm_75 dX2_waterRestEnd_40 ?_
      refine lv_iload_n hx hb dX2_waterRestEnd_43 rfl (lv_at hl 3 rfl) ?_
      refine lv_iload_n hx hb dX2_waterRestEnd_44 rfl (lv_at hl 4 rfl) ?_
      refine lv_aload_n hx hb dX2_waterRestEnd_45 rfl (lv_at hl 2 rfl) ?_
      refine g_getR hx hb hts hown 4 59 inlX2 G sh_52 rfl (by decide) rfl wm_75 dX2_waterRestEnd_46 ?_
      refine lv_iload hx hb dX2_waterRestEnd_49 (lv_at hl 0 rfl) ?_
      refine lv_iconst (v := iz 0) hx hb dX2_waterRestEnd_51 rfl ?_
      refine lv_iload_n hx hb dX2_waterRestEnd_52 rfl (lv_at hl 5 rfl) ?_
      obtain ⟨p29, hv⟩ := hv
      refine g_callVi (rest := [.int (iz x2), .int (iz x1), .ref (gad w 59)]) hx hb hml hts hown hNw hA G [.int (iz r10), .int (iz 0), .int (iz x3)] (c_X0_get l w σ _ r10 0 x3 p29) sh_59 rfl wm_368 wm_369 wm_370 wm_74 wm_371 hd_X0_get ⟨rfl, rfl, Nat.le_of_ble_eq_true rfl, Nat.le_of_ble_eq_true rfl⟩ rfl hl.1 (Nat.le_of_ble_eq_true rfl) rfl dX2_waterRestEnd_53 ⟨Nat.zero_le _, Nat.zero_le _⟩ (fun r32 s30 H locs h31 G => ?_)
      obtain ⟨er32, es30⟩ := h31
      rw [es30] at G
      have hv := hv r32 er32
      obtain ⟨p33, hv⟩ := hv
      refine g_callVi (rest := []) hx hb hml hts hown hNw hA G [.int (iz x1), .int (iz x2), .int (iz r32)] (c_X0_get l w σ _ x1 x2 r32 p33) sh_59 rfl wm_368 wm_369 wm_370 wm_74 wm_371 hd_X0_get ⟨rfl, rfl, Nat.le_of_ble_eq_true rfl, Nat.le_of_ble_eq_true rfl⟩ rfl hl.1 (Nat.le_of_ble_eq_true rfl) rfl dX2_waterRestEnd_56 ⟨Nat.zero_le _, Nat.zero_le _⟩ (fun r36 s34 H locs h35 G => ?_)
      obtain ⟨er36, es34⟩ := h35
      rw [es34] at G
      have hv := hv r36 er36
      exact g_iret hx hb hr hlk hz G hv dX2_waterRestEnd_59
  · have hv := hv.2 c6
    refine lv_iload hx hb dX2_waterRestEnd_20 (lv_at hl 0 rfl) ?_
    exact g_iret hx hb hr hlk hz G hv dX2_waterRestEnd_22
abbrev rm_X2_matchRests : Room := ({ frames := 3, cells := 0, slots := 0, locals := 68 } : Room)
theorem hd_X2_matchRests : yX2_matchRests.cls = RX2 ∧ yX2_matchRests.cls ≠ "java/lang/invoke/MethodHandle" ∧ yX2_matchRests.cls ≠ "java/lang/invoke/VarHandle" ∧ (parseMethodDescriptor yX2_matchRests.desc).map (fun d => d.parameters.length) = some 2 := ⟨rfl, by decide +kernel, by decide +kernel, by decide +kernel⟩
set_option maxHeartbeats 4000000 in
set_option maxRecDepth 100000 in
theorem lw_X2_matchRests_29 {p : Program} {l : Launch} {e : Env} {s : State} {m : MethodId} {args : Array Value} {below : List Frame} {meth : Method} {c : Code} {w : GW} {sz : Nat} (hz : s.heap.size = sz) (C0 : gC p s m args meth c cX2_matchRests none 7 yX2_matchRests.cls (gA w gSL.length sz)) (Q : St → Prop) (y1 y2 : Int) : ∀ (n : Nat) (y4 : Int) (σ : St) (H : Heap) (locs : List Loc) (ls : Array Slot), L_X2_matchRests_29 Q y1 y2 n y4 σ → gS w gSL σ (gA w gSL.length sz) s s.heap H locs → lv_has ls 7 [(0, .ref (gad w 52)), (1, .int (iz y1)), (2, .int (iz y2)), (4, .int (iz y4))] → W p l e rm_X2_matchRests s m args below meth c H locs 0 0 (MQ below (gQv w gSL sz Q) args s 0 0 (gA w gSL.length sz)) (F0 m 29 ls []) := by
  obtain ⟨hx, hb, hr, hml, hown, hts, hlk, hNw, hA⟩ := id C0
  have hown : s.vm.findClass RX2 = some m.cls := hown
  intro n
  induction n with
  | zero => intro y4 σ H locs ls hv; exact hv.elim
  | succ n ih =>
    intro y4 σ H locs ls hv G hl
    refine lv_iload hx hb dX2_matchRests_29 (lv_at hl 3 rfl) ?_
    obtain ⟨i7, hv⟩ := hv
    refine g_if_le (tgt := 104) hx hb i7 dX2_matchRests_31 (by decide) (fun c8 => ?_) (fun c8 => ?_)
    · have hv := hv.1 c8
      exact g_vret hx hb hr hlk hz G hv dX2_matchRests_104
    · have hv := hv.2 c8
      refine lv_aload_n hx hb dX2_matchRests_34 rfl (lv_at hl 0 rfl) ?_
      refine g_getR hx hb hts hown 0 1 inlX2 G sh_52 rfl (by decide) rfl wm_76 dX2_matchRests_35 ?_
      refine lv_iload_n hx hb dX2_matchRests_38 rfl (lv_at hl 1 rfl) ?_
      refine lv_iload hx hb dX2_matchRests_39 (lv_at hl 3 rfl) ?_
      obtain ⟨p9, hv⟩ := hv
      refine g_callVi (rest := []) hx hb hml hts hown hNw hA G [.int (iz y1), .int (iz y4)] (c_X5_patternAt l w σ _ y1 y4 p9) sh_1 rfl wm_363 wm_320 wm_321 wm_14 wm_322 hd_X5_patternAt ⟨rfl, rfl, Nat.le_of_ble_eq_true rfl, Nat.le_of_ble_eq_true rfl⟩ rfl hl.1 (Nat.le_of_ble_eq_true rfl) rfl dX2_matchRests_41 ⟨Nat.zero_le _, Nat.zero_le _⟩ (fun r12 s10 H locs h11 G => ?_)
      obtain ⟨er12, es10⟩ := h11
      rw [es10] at G
      have hv := hv r12 er12
      refine lv_istore (lv' := [(5, .int (iz r12)), (0, .ref (gad w 52)), (1, .int (iz y1)), (2, .int (iz y2)), (4, .int (iz y4))]) hx hb dX2_matchRests_44 hl (by decide) rfl (fun ls hl => ?_)
      refine lv_iload hx hb dX2_matchRests_46 (lv_at hl 0 rfl) ?_
      refine lv_bipush (v := iz 126) hx hb dX2_matchRests_48 (by decide +kernel) ?_
      obtain ⟨i13, hv⟩ := hv
      refine g_icmp_ne (tgt := 64) hx hb i13 ⟨by decide, by decide⟩ dX2_matchRests_50 (by decide) (fun c14 => ?_) (fun c14 => ?_)
      · have hv := hv.1 c14
        refine lv_aload_n hx hb dX2_matchRests_64 rfl (lv_at hl 1 rfl) ?_
        refine g_getR hx hb hts hown 4 59 inlX2 G sh_52 rfl (by decide) rfl wm_75 dX2_matchRests_65 ?_
        refine lv_iload_n hx hb dX2_matchRests_68 rfl (lv_at hl 2 rfl) ?_
        refine lv_iload hx hb dX2_matchRests_69 (lv_at hl 4 rfl) ?_
        refine lv_iconst (v := iz 1) hx hb dX2_matchRests_71 rfl ?_
        refine g_iadd hx hb dX2_matchRests_72 ?_
        refine lv_aload_n hx hb dX2_matchRests_73 rfl (lv_at hl 1 rfl) ?_
        refine lv_iload hx hb dX2_matchRests_74 (lv_at hl 0 rfl) ?_
        refine lv_iload_n hx hb dX2_matchRests_76 rfl (lv_at hl 3 rfl) ?_
        obtain ⟨p15, hv⟩ := hv
        refine g_callVi (rest := [.int (iz (y4 + 1)), .int (iz y1), .ref (gad w 59)]) hx hb hml hts hown hNw hA G [.int (iz r12), .int (iz y2)] (c_X2_elementEnd l w σ _ r12 y2 p15) sh_52 rfl wm_364 wm_365 wm_366 wm_27 wm_367 hd_X2_elementEnd ⟨rfl, rfl, Nat.le_of_ble_eq_true rfl, Nat.le_of_ble_eq_true rfl⟩ rfl hl.1 (Nat.le_of_ble_eq_true rfl) rfl dX2_matchRests_77 ⟨Nat.zero_le _, Nat.zero_le _⟩ (fun r18 s16 H locs h17 G => ?_)
        obtain ⟨er18, es16⟩ := h17
        rw [es16] at G
        have hv := hv r18 er18
        obtain ⟨p19, hv⟩ := hv
        refine g_callVi (rest := []) hx hb hml hts hown hNw hA G [.int (iz y1), .int (iz (y4 + 1)), .int (iz r18)] (c_X0_get l w σ _ y1 (y4 + 1) r18 p19) sh_59 rfl wm_368 wm_369 wm_370 wm_74 wm_371 hd_X0_get ⟨rfl, rfl, Nat.le_of_ble_eq_true rfl, Nat.le_of_ble_eq_true rfl⟩ rfl hl.1 (Nat.le_of_ble_eq_true rfl) rfl dX2_matchRests_80 ⟨Nat.zero_le _, Nat.zero_le _⟩ (fun r22 s20 H locs h21 G => ?_)
        obtain ⟨er22, es20⟩ := h21
        rw [es20] at G
        have hv := hv r22 er22
        refine lv_istore (lv' := [(6, .int (iz r22)), (5, .int (iz r12)), (0, .ref (gad w 52)), (1, .int (iz y1)), (2, .int (iz y2)), (4, .int (iz y4))]) hx hb dX2_matchRests_83 hl (by decide) rfl (fun ls hl => ?_)
        refine lv_aload_n hx hb dX2_matchRests_85 rfl (lv_at hl 2 rfl) ?_
        refine g_getR hx hb hts hown 4 59 inlX2 G sh_52 rfl (by decide) rfl wm_75 dX2_matchRests_86 ?_
        refine lv_iload_n hx hb dX2_matchRests_89 rfl (lv_at hl 3 rfl) ?_
        refine lv_iload hx hb dX2_matchRests_90 (lv_at hl 5 rfl) ?_
        refine lv_iload_n hx hb dX2_matchRests_92 rfl (lv_at hl 4 rfl) ?_
        refine lv_iload hx hb dX2_matchRests_93 (lv_at hl 0 rfl) ?_
        obtain ⟨p23, hv⟩ := hv
        refine g_callVv (rest := []) hx hb hml hts hown hNw hA G [.int (iz y1), .int (iz y4), .int (iz y2), .int (iz r22)] (c_X0_set l w σ _ y1 y4 y2 r22 p23) sh_59 rfl wm_372 wm_373 wm_374 wm_74 wm_375 hd_X0_set ⟨rfl, rfl, Nat.le_of_ble_eq_true rfl, Nat.le_of_ble_eq_true rfl⟩ rfl hl.1 (Nat.le_of_ble_eq_true rfl) rfl dX2_matchRests_95 ⟨Nat.zero_le _, Nat.zero_le _⟩ (fun s24 H locs h25 G => ?_)
        have hv := hv s24 h25
        refine g_iinc (k := 5) (x := y4) (n := (-1)) (lv' := [(4, .int (iz (y4 + (-1)))), (6, .int (iz r22)), (5, .int (iz r12)), (0, .ref (gad w 52)), (1, .int (iz y1)), (2, .int (iz y2))]) hx hb dX2_matchRests_98 hl rfl (by decide) rfl (fun ls hl => ?_)
        refine lv_goto (tgt := 29) hx hb dX2_matchRests_101 (by decide) ?_
        exact ih _ _ _ _ _ hv G (lv_sub hl [3, 4, 5, 0] rfl)
      · have hv := hv.2 c14
        refine lv_aload_n hx hb dX2_matchRests_53 rfl (lv_at hl 1 rfl) ?_
        refine lv_iload_n hx hb dX2_matchRests_54 rfl (lv_at hl 2 rfl) ?_
        refine lv_iload hx hb dX2_matchRests_55 (lv_at hl 4 rfl) ?_
        refine lv_iload_n hx hb dX2_matchRests_57 rfl (lv_at hl 3 rfl) ?_
        obtain ⟨p26, hv⟩ := hv
        refine g_callVi (rest := []) hx hb hml hts hown hNw hA G [.int (iz y1), .int (iz y4), .int (iz y2)] (c_X2_waterRestEnd l w σ _ y1 y4 y2 p26) sh_52 rfl wm_380 wm_381 wm_382 wm_27 wm_383 hd_X2_waterRestEnd ⟨rfl, rfl, Nat.le_of_ble_eq_true rfl, Nat.le_of_ble_eq_true rfl⟩ rfl hl.1 (Nat.le_of_ble_eq_true rfl) rfl dX2_matchRests_58 ⟨Nat.zero_le _, Nat.zero_le _⟩ (fun r29 s27 H locs h28 G => ?_)
        obtain ⟨er29, es27⟩ := h28
        rw [es27] at G
        have hv := hv r29 er29
        refine lv_goto (tgt := 83) hx hb dX2_matchRests_61 (by decide) ?_
        refine lv_istore (lv' := [(6, .int (iz r29)), (5, .int (iz r12)), (0, .ref (gad w 52)), (1, .int (iz y1)), (2, .int (iz y2)), (4, .int (iz y4))]) hx hb dX2_matchRests_83 hl (by decide) rfl (fun ls hl => ?_)
        refine lv_aload_n hx hb dX2_matchRests_85 rfl (lv_at hl 2 rfl) ?_
        refine g_getR hx hb hts hown 4 59 inlX2 G sh_52 rfl (by decide) rfl wm_75 dX2_matchRests_86 ?_
        refine lv_iload_n hx hb dX2_matchRests_89 rfl (lv_at hl 3 rfl) ?_
        refine lv_iload hx hb dX2_matchRests_90 (lv_at hl 5 rfl) ?_
        refine lv_iload_n hx hb dX2_matchRests_92 rfl (lv_at hl 4 rfl) ?_
        refine lv_iload hx hb dX2_matchRests_93 (lv_at hl 0 rfl) ?_
        obtain ⟨p30, hv⟩ := hv
        refine g_callVv (rest := []) hx hb hml hts hown hNw hA G [.int (iz y1), .int (iz y4), .int (iz y2), .int (iz r29)] (c_X0_set l w σ _ y1 y4 y2 r29 p30) sh_59 rfl wm_372 wm_373 wm_374 wm_74 wm_375 hd_X0_set ⟨rfl, rfl, Nat.le_of_ble_eq_true rfl, Nat.le_of_ble_eq_true rfl⟩ rfl hl.1 (Nat.le_of_ble_eq_true rfl) rfl dX2_matchRests_95 ⟨Nat.zero_le _, Nat.zero_le _⟩ (fun s31 H locs h32 G => ?_)
        have hv := hv s31 h32
        refine g_iinc (k := 5) (x := y4) (n := (-1)) (lv' := [(4, .int (iz (y4 + (-1)))), (6, .int (iz r29)), (5, .int (iz r12)), (0, .ref (gad w 52)), (1, .int (iz y1)), (2, .int (iz y2))]) hx hb dX2_matchRests_98 hl rfl (by decide) rfl (fun ls hl => ?_)
        refine lv_goto (tgt := 29) hx hb dX2_matchRests_101 (by decide) ?_
        exact ih _ _ _ _ _ hv G (lv_sub hl [3, 4, 5, 0] rfl)
set_option maxHeartbeats 4000000 in
set_option maxRecDepth 100000 in
theorem c_X2_matchRests (l : Launch) (w : GW) (σ : St) (sz : Nat) (x1 x2 : Int) (hp : pre_X2_matchRests x1 x2 σ) : Met l yX2_matchRests (Cond.code yX2_matchRests cX2_matchRests 7 none :: wsL_law) rm_X2_matchRests (gPc w gSL σ sz [.ref (gad w 52), .int (iz x1), .int (iz x2)]) (gQv w gSL sz (post_X2_matchRests x1 x2 σ)) 0 0 (gA w gSL.length sz) := by
  have hv : V_X2_matchRests x1 x2 σ (post_X2_matchRests x1 x2 σ) := v_X2_matchRests x1 x2 σ hp
  refine g_met (by decide) [.ref (gad w 52), .int (iz x1), .int (iz x2)] (Nat.le_of_ble_eq_true rfl) ?_
  intro p e s m below meth c ls hz C0 hl G
  obtain ⟨hx, hb, hr, hml, hown, hts, hlk, hNw, hA⟩ := id C0
  have hown : s.vm.findClass RX2 = some m.cls := hown
  have hl : lv_has ls 7 [(0, .ref (gad w 52)), (1, .int (iz x1)), (2, .int (iz x2))] := hl
  refine lv_aload_n hx hb dX2_matchRests_0 rfl (lv_at hl 0 rfl) ?_
  refine g_getR hx hb hts hown 0 1 inlX2 G sh_52 rfl (by decide) rfl wm_76 dX2_matchRests_1 ?_
  refine lv_iload_n hx hb dX2_matchRests_4 rfl (lv_at hl 1 rfl) ?_
  obtain ⟨p1, hv⟩ := hv
  refine g_callVi (rest := []) hx hb hml hts hown hNw hA G [.int (iz x1)] (c_X5_patternSize l w σ _ x1 p1) sh_1 rfl wm_362 wm_292 wm_293 wm_14 wm_294 hd_X5_patternSize ⟨rfl, rfl, Nat.le_of_ble_eq_true rfl, Nat.le_of_ble_eq_true rfl⟩ rfl hl.1 (Nat.le_of_ble_eq_true rfl) rfl dX2_matchRests_5 ⟨Nat.zero_le _, Nat.zero_le _⟩ (fun r4 s2 H locs h3 G => ?_)
  obtain ⟨er4, es2⟩ := h3
  rw [es2] at G
  have hv := hv r4 er4
  refine lv_istore_n (lv' := [(3, .int (iz r4)), (0, .ref (gad w 52)), (1, .int (iz x1)), (2, .int (iz x2))]) hx hb dX2_matchRests_8 rfl hl (by decide) rfl (fun ls hl => ?_)
  refine lv_iload_n hx hb dX2_matchRests_9 rfl (lv_at hl 0 rfl) ?_
  obtain ⟨i5, hv⟩ := hv
  refine g_if_le (tgt := 24) hx hb i5 dX2_matchRests_10 (by decide) (fun c6 => ?_) (fun c6 => ?_)
  · have hv := hv.1 c6
    refine lv_iload_n hx hb dX2_matchRests_24 rfl (lv_at hl 0 rfl) ?_
    refine lv_iconst (v := iz 1) hx hb dX2_matchRests_25 rfl ?_
    refine g_isub hx hb dX2_matchRests_26 ?_
    refine lv_istore (lv' := [(4, .int (iz (r4 - 1))), (3, .int (iz r4)), (0, .ref (gad w 52)), (1, .int (iz x1)), (2, .int (iz x2))]) hx hb dX2_matchRests_27 hl (by decide) rfl (fun ls hl => ?_)
    obtain ⟨n_, hv⟩ := hv
    exact lw_X2_matchRests_29 (l := l) (p := p) (e := e) hz C0 _ x1 x2 n_ _ _ _ _ _ hv G (lv_sub hl [2, 3, 4, 0] rfl)
  · have hv := hv.2 c6
    refine lv_aload_n hx hb dX2_matchRests_13 rfl (lv_at hl 1 rfl) ?_
    refine g_getR hx hb hts hown 4 59 inlX2 G sh_52 rfl (by decide) rfl wm_75 dX2_matchRests_14 ?_
    refine lv_iload_n hx hb dX2_matchRests_17 rfl (lv_at hl 2 rfl) ?_
    refine lv_iload_n hx hb dX2_matchRests_18 rfl (lv_at hl 0 rfl) ?_
    refine lv_iload_n hx hb dX2_matchRests_19 rfl (lv_at hl 3 rfl) ?_
    refine lv_iload_n hx hb dX2_matchRests_20 rfl (lv_at hl 3 rfl) ?_
    obtain ⟨p33, hv⟩ := hv
    refine g_callVv (rest := []) hx hb hml hts hown hNw hA G [.int (iz x1), .int (iz r4), .int (iz x2), .int (iz x2)] (c_X0_set l w σ _ x1 r4 x2 x2 p33) sh_59 rfl wm_372 wm_373 wm_374 wm_74 wm_375 hd_X0_set ⟨rfl, rfl, Nat.le_of_ble_eq_true rfl, Nat.le_of_ble_eq_true rfl⟩ rfl hl.1 (Nat.le_of_ble_eq_true rfl) rfl dX2_matchRests_21 ⟨Nat.zero_le _, Nat.zero_le _⟩ (fun s34 H locs h35 G => ?_)
    have hv := hv s34 h35
    refine lv_iload_n hx hb dX2_matchRests_24 rfl (lv_at hl 0 rfl) ?_
    refine lv_iconst (v := iz 1) hx hb dX2_matchRests_25 rfl ?_
    refine g_isub hx hb dX2_matchRests_26 ?_
    refine lv_istore (lv' := [(4, .int (iz (r4 - 1))), (3, .int (iz r4)), (0, .ref (gad w 52)), (1, .int (iz x1)), (2, .int (iz x2))]) hx hb dX2_matchRests_27 hl (by decide) rfl (fun ls hl => ?_)
    obtain ⟨n_, hv⟩ := hv
    exact lw_X2_matchRests_29 (l := l) (p := p) (e := e) hz C0 _ x1 x2 n_ _ _ _ _ _ hv G (lv_sub hl [2, 3, 4, 0] rfl)
