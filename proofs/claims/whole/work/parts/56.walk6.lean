abbrev rm_X7_matchEnd : Room := ({ frames := 6, cells := 0, slots := 0, locals := 140 } : Room)
theorem hd_X7_matchEnd : yX7_matchEnd.cls = RX7 ∧ yX7_matchEnd.cls ≠ "java/lang/invoke/MethodHandle" ∧ yX7_matchEnd.cls ≠ "java/lang/invoke/VarHandle" ∧ (parseMethodDescriptor yX7_matchEnd.desc).map (fun d => d.parameters.length) = some 2 := ⟨rfl, by decide +kernel, by decide +kernel, by decide +kernel⟩
set_option maxHeartbeats 4000000 in
set_option maxRecDepth 100000 in
theorem c_X7_matchEnd (l : Launch) (w : GW) (σ : St) (sz : Nat) (x1 x2 : Int) (hp : pre_X7_matchEnd x1 x2 σ) : Met l yX7_matchEnd (Cond.code yX7_matchEnd cX7_matchEnd 3 (some .int) :: wsL_law) rm_X7_matchEnd (gPc w gSL σ sz [.ref (gad w 80), .int (iz x1), .int (iz x2)]) (gQi w gSL sz (post_X7_matchEnd x1 x2 σ)) 0 0 (gA w gSL.length sz) := by
  have hv : V_X7_matchEnd x1 x2 σ (post_X7_matchEnd x1 x2 σ) := v_X7_matchEnd x1 x2 σ hp
  refine g_met (by decide) [.ref (gad w 80), .int (iz x1), .int (iz x2)] (Nat.le_of_ble_eq_true rfl) ?_
  intro p e s m below meth c ls hz C0 hl G
  obtain ⟨hx, hb, hr, hml, hown, hts, hlk, hNw, hA⟩ := id C0
  have hown : s.vm.findClass RX7 = some m.cls := hown
  have hl : lv_has ls 3 [(0, .ref (gad w 80)), (1, .int (iz x1)), (2, .int (iz x2))] := hl
  refine lv_iload_n hx hb dX7_matchEnd_0 rfl (lv_at hl 1 rfl) ?_
  obtain ⟨p1, hv⟩ := hv
  refine g_callSi (rest := []) hx hb hml hts hown hNw hA G [.int (iz x1)] (c_X7_isRule l w σ _ x1 p1) wm_281 wm_282 wm_5 wm_283 hd_X7_isRule ⟨rfl, rfl, Nat.le_of_ble_eq_true rfl, Nat.le_of_ble_eq_true rfl⟩ rfl hl.1 (Nat.le_of_ble_eq_true rfl) rfl dX7_matchEnd_1 ⟨Nat.zero_le _, Nat.zero_le _⟩ (fun r4 s2 H locs h3 G => ?_)
  obtain ⟨er4, es2⟩ := h3
  rw [es2] at G
  have hv := hv r4 er4
  obtain ⟨i5, hv⟩ := hv
  refine g_if_eq (tgt := 21) hx hb i5 dX7_matchEnd_4 (by decide) (fun c6 => ?_) (fun c6 => ?_)
  · have hv := hv.1 c6
    refine lv_aload_n hx hb dX7_matchEnd_21 rfl (lv_at hl 0 rfl) ?_
    refine lv_bipush (v := iz (-2)) hx hb dX7_matchEnd_22 (by decide +kernel) ?_
    obtain ⟨p7, hv⟩ := hv
    refine g_callVi (rest := []) hx hb hml hts hown hNw hA G [.int (iz (-2))] (c_X7_fail l w σ _ (-2) p7) sh_80 rfl wm_182 wm_183 wm_184 wm_5 wm_185 hd_X7_fail ⟨rfl, rfl, Nat.le_of_ble_eq_true rfl, Nat.le_of_ble_eq_true rfl⟩ rfl hl.1 (Nat.le_of_ble_eq_true rfl) rfl dX7_matchEnd_24 ⟨Nat.zero_le _, Nat.zero_le _⟩ (fun r10 s8 H locs h9 G => ?_)
    have hv := hv r10 h9.1 s8 h9.2
    exact g_iret hx hb hr hlk hz G hv dX7_matchEnd_27
  · have hv := hv.2 c6
    refine lv_iload_n hx hb dX7_matchEnd_7 rfl (lv_at hl 2 rfl) ?_
    refine lv_iconst (v := iz 0) hx hb dX7_matchEnd_8 rfl ?_
    refine lv_aload_n hx hb dX7_matchEnd_9 rfl (lv_at hl 0 rfl) ?_
    refine g_getR hx hb hts hown 0 81 inlX7 G sh_80 rfl (by decide) rfl wm_108 dX7_matchEnd_10 ?_
    refine lv_iconst (v := iz 0) hx hb dX7_matchEnd_13 rfl ?_
    refine g_ald hx hb G sh_81 (by decide) (by decide) (by decide) dX7_matchEnd_14 ?_
    obtain ⟨p11, hv⟩ := hv
    refine g_callSi (rest := []) hx hb hml hts hown hNw hA G [.int (iz x2), .int (iz 0), .int (iz (σ 81 0))] (c_X7_in l w σ _ x2 0 (σ 81 0) p11) wm_176 wm_177 wm_5 wm_178 hd_X7_in ⟨rfl, rfl, Nat.le_of_ble_eq_true rfl, Nat.le_of_ble_eq_true rfl⟩ rfl hl.1 (Nat.le_of_ble_eq_true rfl) rfl dX7_matchEnd_15 ⟨Nat.zero_le _, Nat.zero_le _⟩ (fun r14 s12 H locs h13 G => ?_)
    obtain ⟨er14, es12⟩ := h13
    rw [es12] at G
    have hv := hv r14 er14
    obtain ⟨i15, hv⟩ := hv
    refine g_if_ne (tgt := 28) hx hb i15 dX7_matchEnd_18 (by decide) (fun c16 => ?_) (fun c16 => ?_)
    · have hv := hv.1 c16
      refine lv_aload_n hx hb dX7_matchEnd_28 rfl (lv_at hl 0 rfl) ?_
      obtain ⟨p17, hv⟩ := hv
      refine g_callVv (rest := []) hx hb hml hts hown hNw hA G [] (c_X7_findEnds l w σ _ p17) sh_80 rfl wm_446 wm_447 wm_448 wm_5 wm_449 hd_X7_findEnds ⟨rfl, rfl, Nat.le_of_ble_eq_true rfl, Nat.le_of_ble_eq_true rfl⟩ rfl hl.1 (Nat.le_of_ble_eq_true rfl) rfl dX7_matchEnd_29 ⟨Nat.zero_le _, Nat.zero_le _⟩ (fun s18 H locs h19 G => ?_)
      have hv := hv s18 h19
      refine lv_aload_n hx hb dX7_matchEnd_32 rfl (lv_at hl 0 rfl) ?_
      refine g_getR hx hb hts hown 6 85 inlX7 G sh_80 rfl (by decide) rfl wm_112 dX7_matchEnd_33 ?_
      refine lv_iload_n hx hb dX7_matchEnd_36 rfl (lv_at hl 1 rfl) ?_
      refine lv_iconst (v := iz 0) hx hb dX7_matchEnd_37 rfl ?_
      refine lv_iload_n hx hb dX7_matchEnd_38 rfl (lv_at hl 2 rfl) ?_
      obtain ⟨p20, hv⟩ := hv
      refine g_callSi (rest := [.ref (gad w 85)]) hx hb hml hts hown hNw hA G [.int (iz x1), .int (iz 0), .int (iz x2)] (c_X7_cell l w s18 _ x1 0 x2 p20) wm_450 wm_451 wm_5 wm_452 hd_X7_cell ⟨rfl, rfl, Nat.le_of_ble_eq_true rfl, Nat.le_of_ble_eq_true rfl⟩ rfl hl.1 (Nat.le_of_ble_eq_true rfl) rfl dX7_matchEnd_39 ⟨Nat.zero_le _, Nat.zero_le _⟩ (fun r23 s21 H locs h22 G => ?_)
      obtain ⟨er23, es21⟩ := h22
      rw [es21] at G
      have hv := hv r23 er23
      obtain ⟨o24, hv⟩ := hv
      refine g_ald hx hb G sh_85 o24.1 o24.2 (by decide) dX7_matchEnd_42 ?_
      exact g_iret hx hb hr hlk hz G hv dX7_matchEnd_43
    · have hv := hv.2 c16
      refine lv_aload_n hx hb dX7_matchEnd_21 rfl (lv_at hl 0 rfl) ?_
      refine lv_bipush (v := iz (-2)) hx hb dX7_matchEnd_22 (by decide +kernel) ?_
      obtain ⟨p25, hv⟩ := hv
      refine g_callVi (rest := []) hx hb hml hts hown hNw hA G [.int (iz (-2))] (c_X7_fail l w σ _ (-2) p25) sh_80 rfl wm_182 wm_183 wm_184 wm_5 wm_185 hd_X7_fail ⟨rfl, rfl, Nat.le_of_ble_eq_true rfl, Nat.le_of_ble_eq_true rfl⟩ rfl hl.1 (Nat.le_of_ble_eq_true rfl) rfl dX7_matchEnd_24 ⟨Nat.zero_le _, Nat.zero_le _⟩ (fun r28 s26 H locs h27 G => ?_)
      have hv := hv r28 h27.1 s26 h27.2
      exact g_iret hx hb hr hlk hz G hv dX7_matchEnd_27
abbrev rm_X7_addNode : Room := ({ frames := 0, cells := 0, slots := 0, locals := 0 } : Room)
theorem hd_X7_addNode : yX7_addNode.cls = RX7 ∧ yX7_addNode.cls ≠ "java/lang/invoke/MethodHandle" ∧ yX7_addNode.cls ≠ "java/lang/invoke/VarHandle" ∧ (parseMethodDescriptor yX7_addNode.desc).map (fun d => d.parameters.length) = some 3 := ⟨rfl, by decide +kernel, by decide +kernel, by decide +kernel⟩
set_option maxHeartbeats 4000000 in
set_option maxRecDepth 100000 in
theorem c_X7_addNode (l : Launch) (w : GW) (σ : St) (sz : Nat) (x1 x2 x3 : Int) (hp : pre_X7_addNode x1 x2 x3 σ) : Met l yX7_addNode (Cond.code yX7_addNode cX7_addNode 4 none :: wsL_law) rm_X7_addNode (gPc w gSL σ sz [.ref (gad w 80), .int (iz x1), .int (iz x2), .int (iz x3)]) (gQv w gSL sz (post_X7_addNode x1 x2 x3 σ)) 0 0 (gA w gSL.length sz) := by
  have hv : V_X7_addNode x1 x2 x3 σ (post_X7_addNode x1 x2 x3 σ) := v_X7_addNode x1 x2 x3 σ hp
  refine g_met (by decide) [.ref (gad w 80), .int (iz x1), .int (iz x2), .int (iz x3)] (Nat.le_of_ble_eq_true rfl) ?_
  intro p e s m below meth c ls hz C0 hl G
  obtain ⟨hx, hb, hr, hml, hown, hts, hlk, hNw, hA⟩ := id C0
  have hown : s.vm.findClass RX7 = some m.cls := hown
  have hl : lv_has ls 4 [(0, .ref (gad w 80)), (1, .int (iz x1)), (2, .int (iz x2)), (3, .int (iz x3))] := hl
  refine lv_aload_n hx hb dX7_addNode_0 rfl (lv_at hl 0 rfl) ?_
  refine g_getR hx hb hts hown 7 86 inlX7 G sh_80 rfl (by decide) rfl wm_113 dX7_addNode_1 ?_
  refine lv_aload_n hx hb dX7_addNode_4 rfl (lv_at hl 0 rfl) ?_
  refine g_getI hx hb hts hown 12 inlX7 G sh_80 rfl (by decide) rfl wm_489 dX7_addNode_5 ?_
  refine lv_iload_n hx hb dX7_addNode_8 rfl (lv_at hl 1 rfl) ?_
  obtain ⟨o1, hv⟩ := hv
  refine g_ast hx hb G sh_86 o1.1 o1.2 (by decide) dX7_addNode_9 (fun s2 es2 H locs G => ?_)
  have hv := hv s2 es2
  refine lv_aload_n hx hb dX7_addNode_10 rfl (lv_at hl 0 rfl) ?_
  refine g_getR hx hb hts hown 8 87 inlX7 G sh_80 rfl (by decide) rfl wm_114 dX7_addNode_11 ?_
  refine lv_aload_n hx hb dX7_addNode_14 rfl (lv_at hl 0 rfl) ?_
  refine g_getI hx hb hts hown 12 inlX7 G sh_80 rfl (by decide) rfl wm_489 dX7_addNode_15 ?_
  refine lv_iload_n hx hb dX7_addNode_18 rfl (lv_at hl 2 rfl) ?_
  obtain ⟨o3, hv⟩ := hv
  refine g_ast hx hb G sh_87 o3.1 o3.2 (by decide) dX7_addNode_19 (fun s4 es4 H locs G => ?_)
  have hv := hv s4 es4
  refine lv_aload_n hx hb dX7_addNode_20 rfl (lv_at hl 0 rfl) ?_
  refine g_getR hx hb hts hown 9 88 inlX7 G sh_80 rfl (by decide) rfl wm_115 dX7_addNode_21 ?_
  refine lv_aload_n hx hb dX7_addNode_24 rfl (lv_at hl 0 rfl) ?_
  refine g_getI hx hb hts hown 12 inlX7 G sh_80 rfl (by decide) rfl wm_489 dX7_addNode_25 ?_
  refine lv_iload_n hx hb dX7_addNode_28 rfl (lv_at hl 3 rfl) ?_
  obtain ⟨o5, hv⟩ := hv
  refine g_ast hx hb G sh_88 o5.1 o5.2 (by decide) dX7_addNode_29 (fun s6 es6 H locs G => ?_)
  have hv := hv s6 es6
  refine lv_aload_n hx hb dX7_addNode_30 rfl (lv_at hl 0 rfl) ?_
  refine g_getR hx hb hts hown 10 89 inlX7 G sh_80 rfl (by decide) rfl wm_116 dX7_addNode_31 ?_
  refine lv_aload_n hx hb dX7_addNode_34 rfl (lv_at hl 0 rfl) ?_
  refine g_getI hx hb hts hown 12 inlX7 G sh_80 rfl (by decide) rfl wm_489 dX7_addNode_35 ?_
  refine lv_iconst (v := iz 0) hx hb dX7_addNode_38 rfl ?_
  obtain ⟨o7, hv⟩ := hv
  refine g_ast hx hb G sh_89 o7.1 o7.2 (by decide) dX7_addNode_39 (fun s8 es8 H locs G => ?_)
  have hv := hv s8 es8
  refine lv_aload_n hx hb dX7_addNode_40 rfl (lv_at hl 0 rfl) ?_
  refine g_getR hx hb hts hown 11 90 inlX7 G sh_80 rfl (by decide) rfl wm_117 dX7_addNode_41 ?_
  refine lv_aload_n hx hb dX7_addNode_44 rfl (lv_at hl 0 rfl) ?_
  refine g_getI hx hb hts hown 12 inlX7 G sh_80 rfl (by decide) rfl wm_489 dX7_addNode_45 ?_
  refine lv_iconst (v := iz (-1)) hx hb dX7_addNode_48 rfl ?_
  obtain ⟨o9, hv⟩ := hv
  refine g_ast hx hb G sh_90 o9.1 o9.2 (by decide) dX7_addNode_49 (fun s10 es10 H locs G => ?_)
  have hv := hv s10 es10
  refine lv_aload_n hx hb dX7_addNode_50 rfl (lv_at hl 0 rfl) ?_
  refine lv_dup hx hb dX7_addNode_51 rfl ?_
  refine g_getI hx hb hts hown 12 inlX7 G sh_80 rfl (by decide) rfl wm_489 dX7_addNode_52 ?_
  refine lv_iconst (v := iz 1) hx hb dX7_addNode_55 rfl ?_
  refine g_iadd hx hb dX7_addNode_56 ?_
  refine g_putI hx hb hts hown 12 inlX7 tyX7 tyX7_ok nmX7 G sh_80 rfl (by decide) rfl wm_489 rfl rfl rfl dX7_addNode_57 (fun s11 es11 H locs G => ?_)
  have hv := hv s11 es11
  exact g_vret hx hb hr hlk hz G hv dX7_addNode_60
abbrev rm_X7_endOf : Room := ({ frames := 1, cells := 0, slots := 0, locals := 22 } : Room)
theorem hd_X7_endOf : yX7_endOf.cls = RX7 ∧ yX7_endOf.cls ≠ "java/lang/invoke/MethodHandle" ∧ yX7_endOf.cls ≠ "java/lang/invoke/VarHandle" ∧ (parseMethodDescriptor yX7_endOf.desc).map (fun d => d.parameters.length) = some 1 := ⟨rfl, by decide +kernel, by decide +kernel, by decide +kernel⟩
set_option maxHeartbeats 4000000 in
set_option maxRecDepth 100000 in
theorem c_X7_endOf (l : Launch) (w : GW) (σ : St) (sz : Nat) (x1 : Int) (hp : pre_X7_endOf x1 σ) : Met l yX7_endOf (Cond.code yX7_endOf cX7_endOf 2 (some .int) :: wsL_law) rm_X7_endOf (gPc w gSL σ sz [.ref (gad w 80), .int (iz x1)]) (gQi w gSL sz (post_X7_endOf x1 σ)) 0 0 (gA w gSL.length sz) := by
  have hv : V_X7_endOf x1 σ (post_X7_endOf x1 σ) := v_X7_endOf x1 σ hp
  refine g_met (by decide) [.ref (gad w 80), .int (iz x1)] (Nat.le_of_ble_eq_true rfl) ?_
  intro p e s m below meth c ls hz C0 hl G
  obtain ⟨hx, hb, hr, hml, hown, hts, hlk, hNw, hA⟩ := id C0
  have hown : s.vm.findClass RX7 = some m.cls := hown
  have hl : lv_has ls 2 [(0, .ref (gad w 80)), (1, .int (iz x1))] := hl
  refine lv_aload_n hx hb dX7_endOf_0 rfl (lv_at hl 0 rfl) ?_
  refine g_getR hx hb hts hown 6 85 inlX7 G sh_80 rfl (by decide) rfl wm_112 dX7_endOf_1 ?_
  refine lv_aload_n hx hb dX7_endOf_4 rfl (lv_at hl 0 rfl) ?_
  refine g_getR hx hb hts hown 7 86 inlX7 G sh_80 rfl (by decide) rfl wm_113 dX7_endOf_5 ?_
  refine lv_iload_n hx hb dX7_endOf_8 rfl (lv_at hl 1 rfl) ?_
  obtain ⟨o1, hv⟩ := hv
  refine g_ald hx hb G sh_86 o1.1 o1.2 (by decide) dX7_endOf_9 ?_
  refine lv_iconst (v := iz 0) hx hb dX7_endOf_10 rfl ?_
  refine lv_aload_n hx hb dX7_endOf_11 rfl (lv_at hl 0 rfl) ?_
  refine g_getR hx hb hts hown 8 87 inlX7 G sh_80 rfl (by decide) rfl wm_114 dX7_endOf_12 ?_
  refine lv_iload_n hx hb dX7_endOf_15 rfl (lv_at hl 1 rfl) ?_
  obtain ⟨o2, hv⟩ := hv
  refine g_ald hx hb G sh_87 o2.1 o2.2 (by decide) dX7_endOf_16 ?_
  obtain ⟨p3, hv⟩ := hv
  refine g_callSi (rest := [.ref (gad w 85)]) hx hb hml hts hown hNw hA G [.int (iz (σ 86 x1)), .int (iz 0), .int (iz (σ 87 x1))] (c_X7_cell l w σ _ (σ 86 x1) 0 (σ 87 x1) p3) wm_450 wm_451 wm_5 wm_452 hd_X7_cell ⟨rfl, rfl, Nat.le_of_ble_eq_true rfl, Nat.le_of_ble_eq_true rfl⟩ rfl hl.1 (Nat.le_of_ble_eq_true rfl) rfl dX7_endOf_17 ⟨Nat.zero_le _, Nat.zero_le _⟩ (fun r6 s4 H locs h5 G => ?_)
  obtain ⟨er6, es4⟩ := h5
  rw [es4] at G
  have hv := hv r6 er6
  obtain ⟨o7, hv⟩ := hv
  refine g_ald hx hb G sh_85 o7.1 o7.2 (by decide) dX7_endOf_20 ?_
  exact g_iret hx hb hr hlk hz G hv dX7_endOf_21
abbrev rm_X7_numberAt : Room := ({ frames := 2, cells := 0, slots := 0, locals := 45 } : Room)
theorem hd_X7_numberAt : yX7_numberAt.cls = RX7 ∧ yX7_numberAt.cls ≠ "java/lang/invoke/MethodHandle" ∧ yX7_numberAt.cls ≠ "java/lang/invoke/VarHandle" ∧ (parseMethodDescriptor yX7_numberAt.desc).map (fun d => d.parameters.length) = some 1 := ⟨rfl, by decide +kernel, by decide +kernel, by decide +kernel⟩
set_option maxHeartbeats 4000000 in
set_option maxRecDepth 100000 in
theorem lw_X7_numberAt_4 {p : Program} {l : Launch} {e : Env} {s : State} {m : MethodId} {args : Array Value} {below : List Frame} {meth : Method} {c : Code} {w : GW} {sz : Nat} (hz : s.heap.size = sz) (C0 : gC p s m args meth c cX7_numberAt (some .int) 4 yX7_numberAt.cls (gA w gSL.length sz)) (Q : Int → St → Prop) : ∀ (n : Nat) (y2 y3 : Int) (σ : St) (H : Heap) (locs : List Loc) (ls : Array Slot), L_X7_numberAt_4 Q n y2 y3 σ → gS w gSL σ (gA w gSL.length sz) s s.heap H locs → lv_has ls 4 [(0, .ref (gad w 80)), (2, .int (iz y2)), (3, .int (iz y3))] → W p l e rm_X7_numberAt s m args below meth c H locs 0 0 (MQ below (gQi w gSL sz Q) args s 0 0 (gA w gSL.length sz)) (F0 m 4 ls []) := by
  obtain ⟨hx, hb, hr, hml, hown, hts, hlk, hNw, hA⟩ := id C0
  have hown : s.vm.findClass RX7 = some m.cls := hown
  intro n
  induction n with
  | zero => intro y2 y3 σ H locs ls hv; exact hv.elim
  | succ n ih =>
    intro y2 y3 σ H locs ls hv G hl
    refine lv_aload_n hx hb dX7_numberAt_4 rfl (lv_at hl 0 rfl) ?_
    refine lv_iload_n hx hb dX7_numberAt_5 rfl (lv_at hl 2 rfl) ?_
    refine lv_bipush (v := iz 48) hx hb dX7_numberAt_6 (by decide +kernel) ?_
    refine lv_bipush (v := iz 57) hx hb dX7_numberAt_8 (by decide +kernel) ?_
    obtain ⟨p1, hv⟩ := hv
    refine g_callVi (rest := []) hx hb hml hts hown hNw hA G [.int (iz y3), .int (iz 48), .int (iz 57)] (c_X7_isOf l w σ _ y3 48 57 p1) sh_80 rfl wm_473 wm_474 wm_475 wm_5 wm_476 hd_X7_isOf ⟨rfl, rfl, Nat.le_of_ble_eq_true rfl, Nat.le_of_ble_eq_true rfl⟩ rfl hl.1 (Nat.le_of_ble_eq_true rfl) rfl dX7_numberAt_10 ⟨Nat.zero_le _, Nat.zero_le _⟩ (fun r4 s2 H locs h3 G => ?_)
    obtain ⟨er4, es2⟩ := h3
    rw [es2] at G
    have hv := hv r4 er4
    obtain ⟨i5, hv⟩ := hv
    refine g_if_eq (tgt := 42) hx hb i5 dX7_numberAt_13 (by decide) (fun c6 => ?_) (fun c6 => ?_)
    · have hv := hv.1 c6
      refine lv_iload_n hx hb dX7_numberAt_42 rfl (lv_at hl 1 rfl) ?_
      exact g_iret hx hb hr hlk hz G hv dX7_numberAt_43
    · have hv := hv.2 c6
      refine lv_bipush (v := iz 10) hx hb dX7_numberAt_16 (by decide +kernel) ?_
      refine lv_iload_n hx hb dX7_numberAt_18 rfl (lv_at hl 1 rfl) ?_
      refine g_imul hx hb dX7_numberAt_19 ?_
      refine lv_aload_n hx hb dX7_numberAt_20 rfl (lv_at hl 0 rfl) ?_
      refine g_getR hx hb hts hown 0 81 inlX7 G sh_80 rfl (by decide) rfl wm_108 dX7_numberAt_21 ?_
      refine lv_iconst (v := iz 1) hx hb dX7_numberAt_24 rfl ?_
      refine lv_iload_n hx hb dX7_numberAt_25 rfl (lv_at hl 2 rfl) ?_
      refine g_iadd hx hb dX7_numberAt_26 ?_
      obtain ⟨o7, hv⟩ := hv
      refine g_ald hx hb G sh_81 o7.1 o7.2 (by decide) dX7_numberAt_27 ?_
      refine g_iadd hx hb dX7_numberAt_28 ?_
      refine lv_bipush (v := iz 48) hx hb dX7_numberAt_29 (by decide +kernel) ?_
      refine g_isub hx hb dX7_numberAt_31 ?_
      refine lv_ldc (v := iz 1000000) hx hb hown (hts _ wm_513) dX7_numberAt_32 ?_
      obtain ⟨o8, hv⟩ := hv
      refine g_irem hx hb o8.1 o8.2 (by decide) (by decide) dX7_numberAt_34 ?_
      refine lv_istore_n (lv' := [(2, .int (iz ((((10 * y2) + (σ 81 (1 + y3))) - 48) % 1000000))), (0, .ref (gad w 80)), (3, .int (iz y3))]) hx hb dX7_numberAt_35 rfl hl (by decide) rfl (fun ls hl => ?_)
      refine g_iinc (k := 2) (x := y3) (n := 1) (lv' := [(3, .int (iz (y3 + 1))), (2, .int (iz ((((10 * y2) + (σ 81 (1 + y3))) - 48) % 1000000))), (0, .ref (gad w 80))]) hx hb dX7_numberAt_36 hl rfl (by decide) rfl (fun ls hl => ?_)
      refine lv_goto (tgt := 4) hx hb dX7_numberAt_39 (by decide) ?_
      exact ih _ _ _ _ _ _ hv G (lv_sub hl [2, 1, 0] rfl)
set_option maxHeartbeats 4000000 in
set_option maxRecDepth 100000 in
theorem c_X7_numberAt (l : Launch) (w : GW) (σ : St) (sz : Nat) (x1 : Int) (hp : pre_X7_numberAt x1 σ) : Met l yX7_numberAt (Cond.code yX7_numberAt cX7_numberAt 4 (some .int) :: wsL_law) rm_X7_numberAt (gPc w gSL σ sz [.ref (gad w 80), .int (iz x1)]) (gQi w gSL sz (post_X7_numberAt x1 σ)) 0 0 (gA w gSL.length sz) := by
  have hv : V_X7_numberAt x1 σ (post_X7_numberAt x1 σ) := v_X7_numberAt x1 σ hp
  refine g_met (by decide) [.ref (gad w 80), .int (iz x1)] (Nat.le_of_ble_eq_true rfl) ?_
  intro p e s m below meth c ls hz C0 hl G
  obtain ⟨hx, hb, hr, hml, hown, hts, hlk, hNw, hA⟩ := id C0
  have hown : s.vm.findClass RX7 = some m.cls := hown
  have hl : lv_has ls 4 [(0, .ref (gad w 80)), (1, .int (iz x1))] := hl
  refine lv_iconst (v := iz 0) hx hb dX7_numberAt_0 rfl ?_
  refine lv_istore_n (lv' := [(2, .int (iz 0)), (0, .ref (gad w 80)), (1, .int (iz x1))]) hx hb dX7_numberAt_1 rfl hl (by decide) rfl (fun ls hl => ?_)
  refine lv_iload_n hx hb dX7_numberAt_2 rfl (lv_at hl 2 rfl) ?_
  refine lv_istore_n (lv' := [(3, .int (iz x1)), (2, .int (iz 0)), (0, .ref (gad w 80)), (1, .int (iz x1))]) hx hb dX7_numberAt_3 rfl hl (by decide) rfl (fun ls hl => ?_)
  obtain ⟨n_, hv⟩ := hv
  exact lw_X7_numberAt_4 (l := l) (p := p) (e := e) hz C0 _ n_ _ _ _ _ _ _ hv G (lv_sub hl [2, 1, 0] rfl)
abbrev rm_X7_followWater : Room := ({ frames := 2, cells := 0, slots := 0, locals := 44 } : Room)
theorem hd_X7_followWater : yX7_followWater.cls = RX7 ∧ yX7_followWater.cls ≠ "java/lang/invoke/MethodHandle" ∧ yX7_followWater.cls ≠ "java/lang/invoke/VarHandle" ∧ (parseMethodDescriptor yX7_followWater.desc).map (fun d => d.parameters.length) = some 3 := ⟨rfl, by decide +kernel, by decide +kernel, by decide +kernel⟩
set_option maxHeartbeats 4000000 in
set_option maxRecDepth 100000 in
theorem lw_X7_followWater_3 {p : Program} {l : Launch} {e : Env} {s : State} {m : MethodId} {args : Array Value} {below : List Frame} {meth : Method} {c : Code} {w : GW} {sz : Nat} (hz : s.heap.size = sz) (C0 : gC p s m args meth c cX7_followWater (some .int) 6 yX7_followWater.cls (gA w gSL.length sz)) (Q : Int → St → Prop) (y1 y2 : Int) : ∀ (n : Nat) (y4 : Int) (σ : St) (H : Heap) (locs : List Loc) (ls : Array Slot), L_X7_followWater_3 Q y1 y2 n y4 σ → gS w gSL σ (gA w gSL.length sz) s s.heap H locs → lv_has ls 6 [(0, .ref (gad w 80)), (1, .int (iz y1)), (2, .int (iz y2)), (4, .int (iz y4))] → W p l e rm_X7_followWater s m args below meth c H locs 0 0 (MQ below (gQi w gSL sz Q) args s 0 0 (gA w gSL.length sz)) (F0 m 3 ls []) := by
  obtain ⟨hx, hb, hr, hml, hown, hts, hlk, hNw, hA⟩ := id C0
  have hown : s.vm.findClass RX7 = some m.cls := hown
  intro n
  induction n with
  | zero => intro y4 σ H locs ls hv; exact hv.elim
  | succ n ih =>
    intro y4 σ H locs ls hv G hl
    refine lv_aload_n hx hb dX7_followWater_3 rfl (lv_at hl 0 rfl) ?_
    refine g_getR hx hb hts hown 6 85 inlX7 G sh_80 rfl (by decide) rfl wm_112 dX7_followWater_4 ?_
    refine lv_aload_n hx hb dX7_followWater_7 rfl (lv_at hl 0 rfl) ?_
    refine g_getR hx hb hts hown 7 86 inlX7 G sh_80 rfl (by decide) rfl wm_113 dX7_followWater_8 ?_
    refine lv_iload_n hx hb dX7_followWater_11 rfl (lv_at hl 1 rfl) ?_
    obtain ⟨o1, hv⟩ := hv
    refine g_ald hx hb G sh_86 o1.1 o1.2 (by decide) dX7_followWater_12 ?_
    refine lv_iload_n hx hb dX7_followWater_13 rfl (lv_at hl 2 rfl) ?_
    refine lv_iconst (v := iz 1) hx hb dX7_followWater_14 rfl ?_
    refine g_iadd hx hb dX7_followWater_15 ?_
    refine lv_iload hx hb dX7_followWater_16 (lv_at hl 3 rfl) ?_
    obtain ⟨p2, hv⟩ := hv
    refine g_callSi (rest := [.ref (gad w 85)]) hx hb hml hts hown hNw hA G [.int (iz (σ 86 y1)), .int (iz (y2 + 1)), .int (iz y4)] (c_X7_cell l w σ _ (σ 86 y1) (y2 + 1) y4 p2) wm_450 wm_451 wm_5 wm_452 hd_X7_cell ⟨rfl, rfl, Nat.le_of_ble_eq_true rfl, Nat.le_of_ble_eq_true rfl⟩ rfl hl.1 (Nat.le_of_ble_eq_true rfl) rfl dX7_followWater_18 ⟨Nat.zero_le _, Nat.zero_le _⟩ (fun r5 s3 H locs h4 G => ?_)
    obtain ⟨er5, es3⟩ := h4
    rw [es3] at G
    have hv := hv r5 er5
    obtain ⟨o6, hv⟩ := hv
    refine g_ald hx hb G sh_85 o6.1 o6.2 (by decide) dX7_followWater_21 ?_
    refine lv_iconst (v := iz (-1)) hx hb dX7_followWater_22 rfl ?_
    obtain ⟨i7, hv⟩ := hv
    refine g_icmp_ne (tgt := 83) hx hb i7 ⟨by decide, by decide⟩ dX7_followWater_23 (by decide) (fun c8 => ?_) (fun c8 => ?_)
    · have hv := hv.1 c8
      refine lv_iload hx hb dX7_followWater_83 (lv_at hl 3 rfl) ?_
      exact g_iret hx hb hr hlk hz G hv dX7_followWater_85
    · have hv := hv.2 c8
      refine lv_aload_n hx hb dX7_followWater_26 rfl (lv_at hl 0 rfl) ?_
      refine lv_iload hx hb dX7_followWater_27 (lv_at hl 3 rfl) ?_
      obtain ⟨p9, hv⟩ := hv
      refine g_callVi (rest := []) hx hb hml hts hown hNw hA G [.int (iz y4)] (c_X7_islandAt l w σ _ y4 p9) sh_80 rfl wm_461 wm_462 wm_463 wm_5 wm_464 hd_X7_islandAt ⟨rfl, rfl, Nat.le_of_ble_eq_true rfl, Nat.le_of_ble_eq_true rfl⟩ rfl hl.1 (Nat.le_of_ble_eq_true rfl) rfl dX7_followWater_29 ⟨Nat.zero_le _, Nat.zero_le _⟩ (fun r12 s10 H locs h11 G => ?_)
      obtain ⟨er12, es10⟩ := h11
      rw [es10] at G
      have hv := hv r12 er12
      refine lv_istore (lv' := [(5, .int (iz r12)), (0, .ref (gad w 80)), (1, .int (iz y1)), (2, .int (iz y2)), (4, .int (iz y4))]) hx hb dX7_followWater_32 hl (by decide) rfl (fun ls hl => ?_)
      refine lv_iload hx hb dX7_followWater_34 (lv_at hl 0 rfl) ?_
      refine lv_iconst (v := iz (-1)) hx hb dX7_followWater_36 rfl ?_
      obtain ⟨i13, hv⟩ := hv
      refine g_icmp_eq (tgt := 67) hx hb i13 ⟨by decide, by decide⟩ dX7_followWater_37 (by decide) (fun c14 => ?_) (fun c14 => ?_)
      · have hv := hv.1 c14
        refine lv_aload_n hx hb dX7_followWater_67 rfl (lv_at hl 1 rfl) ?_
        refine g_getR hx hb hts hown 10 89 inlX7 G sh_80 rfl (by decide) rfl wm_116 dX7_followWater_68 ?_
        refine lv_iload_n hx hb dX7_followWater_71 rfl (lv_at hl 2 rfl) ?_
        refine lv_dup2_11 hx hb dX7_followWater_72 rfl rfl ?_
        obtain ⟨o15, hv⟩ := hv
        refine g_ald hx hb G sh_89 o15.1 o15.2 (by decide) dX7_followWater_73 ?_
        refine lv_iconst (v := iz 1) hx hb dX7_followWater_74 rfl ?_
        refine g_iadd hx hb dX7_followWater_75 ?_
        obtain ⟨o16, hv⟩ := hv
        refine g_ast hx hb G sh_89 o16.1 o16.2 (by decide) dX7_followWater_76 (fun s17 es17 H locs G => ?_)
        have hv := hv s17 es17
        refine g_iinc (k := 4) (x := y4) (n := 1) (lv' := [(4, .int (iz (y4 + 1))), (5, .int (iz r12)), (0, .ref (gad w 80)), (1, .int (iz y1)), (2, .int (iz y2))]) hx hb dX7_followWater_77 hl rfl (by decide) rfl (fun ls hl => ?_)
        refine lv_goto (tgt := 3) hx hb dX7_followWater_80 (by decide) ?_
        exact ih _ _ _ _ _ hv G (lv_sub hl [2, 3, 4, 0] rfl)
      · have hv := hv.2 c14
        refine lv_aload_n hx hb dX7_followWater_40 rfl (lv_at hl 1 rfl) ?_
        refine lv_iload hx hb dX7_followWater_41 (lv_at hl 0 rfl) ?_
        refine lv_iload hx hb dX7_followWater_43 (lv_at hl 4 rfl) ?_
        refine lv_iload_n hx hb dX7_followWater_45 rfl (lv_at hl 2 rfl) ?_
        obtain ⟨p18, hv⟩ := hv
        refine g_callVv (rest := []) hx hb hml hts hown hNw hA G [.int (iz r12), .int (iz y4), .int (iz y1)] (c_X7_addNode l w σ _ r12 y4 y1 p18) sh_80 rfl wm_497 wm_498 wm_499 wm_5 wm_500 hd_X7_addNode ⟨rfl, rfl, Nat.le_of_ble_eq_true rfl, Nat.le_of_ble_eq_true rfl⟩ rfl hl.1 (Nat.le_of_ble_eq_true rfl) rfl dX7_followWater_46 ⟨Nat.zero_le _, Nat.zero_le _⟩ (fun s19 H locs h20 G => ?_)
        have hv := hv s19 h20
        refine lv_aload_n hx hb dX7_followWater_49 rfl (lv_at hl 1 rfl) ?_
        refine g_getR hx hb hts hown 6 85 inlX7 G sh_80 rfl (by decide) rfl wm_112 dX7_followWater_50 ?_
        refine lv_iload hx hb dX7_followWater_53 (lv_at hl 0 rfl) ?_
        refine lv_iconst (v := iz 0) hx hb dX7_followWater_55 rfl ?_
        refine lv_iload hx hb dX7_followWater_56 (lv_at hl 4 rfl) ?_
        obtain ⟨p21, hv⟩ := hv
        refine g_callSi (rest := [.ref (gad w 85)]) hx hb hml hts hown hNw hA G [.int (iz r12), .int (iz 0), .int (iz y4)] (c_X7_cell l w s19 _ r12 0 y4 p21) wm_450 wm_451 wm_5 wm_452 hd_X7_cell ⟨rfl, rfl, Nat.le_of_ble_eq_true rfl, Nat.le_of_ble_eq_true rfl⟩ rfl hl.1 (Nat.le_of_ble_eq_true rfl) rfl dX7_followWater_58 ⟨Nat.zero_le _, Nat.zero_le _⟩ (fun r24 s22 H locs h23 G => ?_)
        obtain ⟨er24, es22⟩ := h23
        rw [es22] at G
        have hv := hv r24 er24
        obtain ⟨o25, hv⟩ := hv
        refine g_ald hx hb G sh_85 o25.1 o25.2 (by decide) dX7_followWater_61 ?_
        refine lv_istore (lv' := [(4, .int (iz (s19 85 r24))), (5, .int (iz r12)), (0, .ref (gad w 80)), (1, .int (iz y1)), (2, .int (iz y2))]) hx hb dX7_followWater_62 hl (by decide) rfl (fun ls hl => ?_)
        refine lv_goto (tgt := 80) hx hb dX7_followWater_64 (by decide) ?_
        refine lv_goto (tgt := 3) hx hb dX7_followWater_80 (by decide) ?_
        exact ih _ _ _ _ _ hv G (lv_sub hl [2, 3, 4, 0] rfl)
set_option maxHeartbeats 4000000 in
set_option maxRecDepth 100000 in
theorem c_X7_followWater (l : Launch) (w : GW) (σ : St) (sz : Nat) (x1 x2 x3 : Int) (hp : pre_X7_followWater x1 x2 x3 σ) : Met l yX7_followWater (Cond.code yX7_followWater cX7_followWater 6 (some .int) :: wsL_law) rm_X7_followWater (gPc w gSL σ sz [.ref (gad w 80), .int (iz x1), .int (iz x2), .int (iz x3)]) (gQi w gSL sz (post_X7_followWater x1 x2 x3 σ)) 0 0 (gA w gSL.length sz) := by
  have hv : V_X7_followWater x1 x2 x3 σ (post_X7_followWater x1 x2 x3 σ) := v_X7_followWater x1 x2 x3 σ hp
  refine g_met (by decide) [.ref (gad w 80), .int (iz x1), .int (iz x2), .int (iz x3)] (Nat.le_of_ble_eq_true rfl) ?_
  intro p e s m below meth c ls hz C0 hl G
  obtain ⟨hx, hb, hr, hml, hown, hts, hlk, hNw, hA⟩ := id C0
  have hown : s.vm.findClass RX7 = some m.cls := hown
  have hl : lv_has ls 6 [(0, .ref (gad w 80)), (1, .int (iz x1)), (2, .int (iz x2)), (3, .int (iz x3))] := hl
  refine lv_iload_n hx hb dX7_followWater_0 rfl (lv_at hl 3 rfl) ?_
  refine lv_istore (lv' := [(4, .int (iz x3)), (0, .ref (gad w 80)), (1, .int (iz x1)), (2, .int (iz x2)), (3, .int (iz x3))]) hx hb dX7_followWater_1 hl (by decide) rfl (fun ls hl => ?_)
  obtain ⟨n_, hv⟩ := hv
  exact lw_X7_followWater_3 (l := l) (p := p) (e := e) hz C0 _ x1 x2 n_ _ _ _ _ _ hv G (lv_sub hl [1, 2, 3, 0] rfl)
abbrev rm_X7_follow : Room := ({ frames := 4, cells := 0, slots := 0, locals := 92 } : Room)
theorem hd_X7_follow : yX7_follow.cls = RX7 ∧ yX7_follow.cls ≠ "java/lang/invoke/MethodHandle" ∧ yX7_follow.cls ≠ "java/lang/invoke/VarHandle" ∧ (parseMethodDescriptor yX7_follow.desc).map (fun d => d.parameters.length) = some 1 := ⟨rfl, by decide +kernel, by decide +kernel, by decide +kernel⟩
set_option maxHeartbeats 4000000 in
set_option maxRecDepth 100000 in
theorem lw_X7_follow_17 {p : Program} {l : Launch} {e : Env} {s : State} {m : MethodId} {args : Array Value} {below : List Frame} {meth : Method} {c : Code} {w : GW} {sz : Nat} (hz : s.heap.size = sz) (C0 : gC p s m args meth c cX7_follow none 6 yX7_follow.cls (gA w gSL.length sz)) (Q : St → Prop) (y1 y2 : Int) : ∀ (n : Nat) (y3 y4 : Int) (σ : St) (H : Heap) (locs : List Loc) (ls : Array Slot), L_X7_follow_17 Q y1 y2 n y3 y4 σ → gS w gSL σ (gA w gSL.length sz) s s.heap H locs → lv_has ls 6 [(0, .ref (gad w 80)), (1, .int (iz y1)), (2, .int (iz y2)), (3, .int (iz y3)), (4, .int (iz y4))] → W p l e rm_X7_follow s m args below meth c H locs 0 0 (MQ below (gQv w gSL sz Q) args s 0 0 (gA w gSL.length sz)) (F0 m 17 ls []) := by
  obtain ⟨hx, hb, hr, hml, hown, hts, hlk, hNw, hA⟩ := id C0
  have hown : s.vm.findClass RX7 = some m.cls := hown
  intro n
  induction n with
  | zero => intro y3 y4 σ H locs ls hv; exact hv.elim
  | succ n ih =>
    intro y3 y4 σ H locs ls hv G hl
    refine lv_iload hx hb dX7_follow_17 (lv_at hl 4 rfl) ?_
    refine lv_aload_n hx hb dX7_follow_19 rfl (lv_at hl 0 rfl) ?_
    refine g_getR hx hb hts hown 0 81 inlX7 G sh_80 rfl (by decide) rfl wm_108 dX7_follow_20 ?_
    refine lv_bipush (v := iz 101) hx hb dX7_follow_23 (by decide +kernel) ?_
    refine lv_iload_n hx hb dX7_follow_25 rfl (lv_at hl 2 rfl) ?_
    refine g_iadd hx hb dX7_follow_26 ?_
    obtain ⟨o3, hv⟩ := hv
    refine g_ald hx hb G sh_81 o3.1 o3.2 (by decide) dX7_follow_27 ?_
    obtain ⟨i4, hv⟩ := hv
    obtain ⟨i5, hv⟩ := hv
    refine g_icmp_ge (tgt := 120) hx hb i4 i5 dX7_follow_28 (by decide) (fun c6 => ?_) (fun c6 => ?_)
    · have hv := hv.1 c6
      exact g_vret hx hb hr hlk hz G hv dX7_follow_120
    · have hv := hv.2 c6
      refine lv_aload_n hx hb dX7_follow_31 rfl (lv_at hl 0 rfl) ?_
      refine lv_iload_n hx hb dX7_follow_32 rfl (lv_at hl 2 rfl) ?_
      refine lv_iload hx hb dX7_follow_33 (lv_at hl 4 rfl) ?_
      obtain ⟨p7, hv⟩ := hv
      refine g_callVi (rest := []) hx hb hml hts hown hNw hA G [.int (iz y2), .int (iz y4)] (c_X7_elementOf l w σ _ y2 y4 p7) sh_80 rfl wm_327 wm_328 wm_329 wm_5 wm_330 hd_X7_elementOf ⟨rfl, rfl, Nat.le_of_ble_eq_true rfl, Nat.le_of_ble_eq_true rfl⟩ rfl hl.1 (Nat.le_of_ble_eq_true rfl) rfl dX7_follow_35 ⟨Nat.zero_le _, Nat.zero_le _⟩ (fun r10 s8 H locs h9 G => ?_)
      obtain ⟨er10, es8⟩ := h9
      rw [es8] at G
      have hv := hv r10 er10
      refine lv_istore (lv' := [(5, .int (iz r10)), (0, .ref (gad w 80)), (1, .int (iz y1)), (2, .int (iz y2)), (3, .int (iz y3)), (4, .int (iz y4))]) hx hb dX7_follow_38 hl (by decide) rfl (fun ls hl => ?_)
      refine lv_iload hx hb dX7_follow_40 (lv_at hl 0 rfl) ?_
      refine lv_bipush (v := iz 126) hx hb dX7_follow_42 (by decide +kernel) ?_
      obtain ⟨i11, hv⟩ := hv
      refine g_icmp_ne (tgt := 59) hx hb i11 ⟨by decide, by decide⟩ dX7_follow_44 (by decide) (fun c12 => ?_) (fun c12 => ?_)
      · have hv := hv.1 c12
        refine lv_iload hx hb dX7_follow_59 (lv_at hl 0 rfl) ?_
        obtain ⟨p13, hv⟩ := hv
        refine g_callSi (rest := []) hx hb hml hts hown hNw hA G [.int (iz r10)] (c_X7_isReference l w σ _ r10 p13) wm_284 wm_285 wm_5 wm_286 hd_X7_isReference ⟨rfl, rfl, Nat.le_of_ble_eq_true rfl, Nat.le_of_ble_eq_true rfl⟩ rfl hl.1 (Nat.le_of_ble_eq_true rfl) rfl dX7_follow_61 ⟨Nat.zero_le _, Nat.zero_le _⟩ (fun r16 s14 H locs h15 G => ?_)
        obtain ⟨er16, es14⟩ := h15
        rw [es14] at G
        have hv := hv r16 er16
        obtain ⟨i17, hv⟩ := hv
        refine g_if_eq (tgt := 78) hx hb i17 dX7_follow_64 (by decide) (fun c18 => ?_) (fun c18 => ?_)
        · have hv := hv.1 c18
          refine lv_iload hx hb dX7_follow_78 (lv_at hl 0 rfl) ?_
          refine lv_bipush (v := iz 35) hx hb dX7_follow_80 (by decide +kernel) ?_
          refine g_icmp_ne (tgt := 106) hx hb i11 ⟨by decide, by decide⟩ dX7_follow_82 (by decide) (fun c19 => ?_) (fun c19 => ?_)
          · have hv := hv.1 c19
            refine lv_aload_n hx hb dX7_follow_106 rfl (lv_at hl 1 rfl) ?_
            refine lv_iload hx hb dX7_follow_107 (lv_at hl 0 rfl) ?_
            refine lv_iload_n hx hb dX7_follow_109 rfl (lv_at hl 4 rfl) ?_
            obtain ⟨p20, hv⟩ := hv
            refine g_callVi (rest := []) hx hb hml hts hown hNw hA G [.int (iz r10), .int (iz y3)] (c_X7_elementEnd l w σ _ r10 y3 p20) sh_80 rfl wm_465 wm_466 wm_467 wm_5 wm_468 hd_X7_elementEnd ⟨rfl, rfl, Nat.le_of_ble_eq_true rfl, Nat.le_of_ble_eq_true rfl⟩ rfl hl.1 (Nat.le_of_ble_eq_true rfl) rfl dX7_follow_110 ⟨Nat.zero_le _, Nat.zero_le _⟩ (fun r23 s21 H locs h22 G => ?_)
            obtain ⟨er23, es21⟩ := h22
            rw [es21] at G
            have hv := hv r23 er23
            refine lv_istore_n (lv' := [(3, .int (iz r23)), (5, .int (iz r10)), (0, .ref (gad w 80)), (1, .int (iz y1)), (2, .int (iz y2)), (4, .int (iz y4))]) hx hb dX7_follow_113 rfl hl (by decide) rfl (fun ls hl => ?_)
            refine g_iinc (k := 5) (x := y4) (n := 1) (lv' := [(4, .int (iz (y4 + 1))), (3, .int (iz r23)), (5, .int (iz r10)), (0, .ref (gad w 80)), (1, .int (iz y1)), (2, .int (iz y2))]) hx hb dX7_follow_114 hl rfl (by decide) rfl (fun ls hl => ?_)
            refine lv_goto (tgt := 17) hx hb dX7_follow_117 (by decide) ?_
            exact ih _ _ _ _ _ _ hv G (lv_sub hl [3, 4, 5, 1, 0] rfl)
          · have hv := hv.2 c19
            refine lv_aload_n hx hb dX7_follow_85 rfl (lv_at hl 1 rfl) ?_
            refine g_getR hx hb hts hown 11 90 inlX7 G sh_80 rfl (by decide) rfl wm_117 dX7_follow_86 ?_
            refine lv_iload_n hx hb dX7_follow_89 rfl (lv_at hl 2 rfl) ?_
            obtain ⟨o24, hv⟩ := hv
            refine g_ald hx hb G sh_90 o24.1 o24.2 (by decide) dX7_follow_90 ?_
            refine lv_iconst (v := iz (-1)) hx hb dX7_follow_91 rfl ?_
            obtain ⟨i25, hv⟩ := hv
            refine g_icmp_ne (tgt := 106) hx hb i25 ⟨by decide, by decide⟩ dX7_follow_92 (by decide) (fun c26 => ?_) (fun c26 => ?_)
            · have hv := hv.1 c26
              refine lv_aload_n hx hb dX7_follow_106 rfl (lv_at hl 1 rfl) ?_
              refine lv_iload hx hb dX7_follow_107 (lv_at hl 0 rfl) ?_
              refine lv_iload_n hx hb dX7_follow_109 rfl (lv_at hl 4 rfl) ?_
              obtain ⟨p27, hv⟩ := hv
              refine g_callVi (rest := []) hx hb hml hts hown hNw hA G [.int (iz r10), .int (iz y3)] (c_X7_elementEnd l w σ _ r10 y3 p27) sh_80 rfl wm_465 wm_466 wm_467 wm_5 wm_468 hd_X7_elementEnd ⟨rfl, rfl, Nat.le_of_ble_eq_true rfl, Nat.le_of_ble_eq_true rfl⟩ rfl hl.1 (Nat.le_of_ble_eq_true rfl) rfl dX7_follow_110 ⟨Nat.zero_le _, Nat.zero_le _⟩ (fun r30 s28 H locs h29 G => ?_)
              obtain ⟨er30, es28⟩ := h29
              rw [es28] at G
              have hv := hv r30 er30
              refine lv_istore_n (lv' := [(3, .int (iz r30)), (5, .int (iz r10)), (0, .ref (gad w 80)), (1, .int (iz y1)), (2, .int (iz y2)), (4, .int (iz y4))]) hx hb dX7_follow_113 rfl hl (by decide) rfl (fun ls hl => ?_)
              refine g_iinc (k := 5) (x := y4) (n := 1) (lv' := [(4, .int (iz (y4 + 1))), (3, .int (iz r30)), (5, .int (iz r10)), (0, .ref (gad w 80)), (1, .int (iz y1)), (2, .int (iz y2))]) hx hb dX7_follow_114 hl rfl (by decide) rfl (fun ls hl => ?_)
              refine lv_goto (tgt := 17) hx hb dX7_follow_117 (by decide) ?_
              exact ih _ _ _ _ _ _ hv G (lv_sub hl [3, 4, 5, 1, 0] rfl)
            · have hv := hv.2 c26
              refine lv_aload_n hx hb dX7_follow_95 rfl (lv_at hl 1 rfl) ?_
              refine g_getR hx hb hts hown 11 90 inlX7 G sh_80 rfl (by decide) rfl wm_117 dX7_follow_96 ?_
              refine lv_iload_n hx hb dX7_follow_99 rfl (lv_at hl 2 rfl) ?_
              refine lv_aload_n hx hb dX7_follow_100 rfl (lv_at hl 1 rfl) ?_
              refine lv_iload_n hx hb dX7_follow_101 rfl (lv_at hl 4 rfl) ?_
              obtain ⟨p31, hv⟩ := hv
              refine g_callVi (rest := [.int (iz y1), .ref (gad w 90)]) hx hb hml hts hown hNw hA G [.int (iz y3)] (c_X7_numberAt l w σ _ y3 p31) sh_80 rfl wm_509 wm_510 wm_511 wm_5 wm_512 hd_X7_numberAt ⟨rfl, rfl, Nat.le_of_ble_eq_true rfl, Nat.le_of_ble_eq_true rfl⟩ rfl hl.1 (Nat.le_of_ble_eq_true rfl) rfl dX7_follow_102 ⟨Nat.zero_le _, Nat.zero_le _⟩ (fun r34 s32 H locs h33 G => ?_)
              obtain ⟨er34, es32⟩ := h33
              rw [es32] at G
              have hv := hv r34 er34
              obtain ⟨o35, hv⟩ := hv
              refine g_ast hx hb G sh_90 o35.1 o35.2 (by decide) dX7_follow_105 (fun s36 es36 H locs G => ?_)
              have hv := hv s36 es36
              refine lv_aload_n hx hb dX7_follow_106 rfl (lv_at hl 1 rfl) ?_
              refine lv_iload hx hb dX7_follow_107 (lv_at hl 0 rfl) ?_
              refine lv_iload_n hx hb dX7_follow_109 rfl (lv_at hl 4 rfl) ?_
              obtain ⟨p37, hv⟩ := hv
              refine g_callVi (rest := []) hx hb hml hts hown hNw hA G [.int (iz r10), .int (iz y3)] (c_X7_elementEnd l w s36 _ r10 y3 p37) sh_80 rfl wm_465 wm_466 wm_467 wm_5 wm_468 hd_X7_elementEnd ⟨rfl, rfl, Nat.le_of_ble_eq_true rfl, Nat.le_of_ble_eq_true rfl⟩ rfl hl.1 (Nat.le_of_ble_eq_true rfl) rfl dX7_follow_110 ⟨Nat.zero_le _, Nat.zero_le _⟩ (fun r40 s38 H locs h39 G => ?_)
              obtain ⟨er40, es38⟩ := h39
              rw [es38] at G
              have hv := hv r40 er40
              refine lv_istore_n (lv' := [(3, .int (iz r40)), (5, .int (iz r10)), (0, .ref (gad w 80)), (1, .int (iz y1)), (2, .int (iz y2)), (4, .int (iz y4))]) hx hb dX7_follow_113 rfl hl (by decide) rfl (fun ls hl => ?_)
              refine g_iinc (k := 5) (x := y4) (n := 1) (lv' := [(4, .int (iz (y4 + 1))), (3, .int (iz r40)), (5, .int (iz r10)), (0, .ref (gad w 80)), (1, .int (iz y1)), (2, .int (iz y2))]) hx hb dX7_follow_114 hl rfl (by decide) rfl (fun ls hl => ?_)
              refine lv_goto (tgt := 17) hx hb dX7_follow_117 (by decide) ?_
              exact ih _ _ _ _ _ _ hv G (lv_sub hl [3, 4, 5, 1, 0] rfl)
        · have hv := hv.2 c18
          refine lv_aload_n hx hb dX7_follow_67 rfl (lv_at hl 1 rfl) ?_
          refine lv_iload hx hb dX7_follow_68 (lv_at hl 0 rfl) ?_
          refine lv_bipush (v := iz 65) hx hb dX7_follow_70 (by decide +kernel) ?_
          refine g_isub hx hb dX7_follow_72 ?_
          refine lv_iload_n hx hb dX7_follow_73 rfl (lv_at hl 4 rfl) ?_
          refine lv_iload_n hx hb dX7_follow_74 rfl (lv_at hl 2 rfl) ?_
          obtain ⟨p41, hv⟩ := hv
          refine g_callVv (rest := []) hx hb hml hts hown hNw hA G [.int (iz (r10 - 65)), .int (iz y3), .int (iz y1)] (c_X7_addNode l w σ _ (r10 - 65) y3 y1 p41) sh_80 rfl wm_497 wm_498 wm_499 wm_5 wm_500 hd_X7_addNode ⟨rfl, rfl, Nat.le_of_ble_eq_true rfl, Nat.le_of_ble_eq_true rfl⟩ rfl hl.1 (Nat.le_of_ble_eq_true rfl) rfl dX7_follow_75 ⟨Nat.zero_le _, Nat.zero_le _⟩ (fun s42 H locs h43 G => ?_)
          have hv := hv s42 h43
          refine lv_iload hx hb dX7_follow_78 (lv_at hl 0 rfl) ?_
          refine lv_bipush (v := iz 35) hx hb dX7_follow_80 (by decide +kernel) ?_
          refine g_icmp_ne (tgt := 106) hx hb i11 ⟨by decide, by decide⟩ dX7_follow_82 (by decide) (fun c44 => ?_) (fun c44 => ?_)
          · have hv := hv.1 c44
            refine lv_aload_n hx hb dX7_follow_106 rfl (lv_at hl 1 rfl) ?_
            refine lv_iload hx hb dX7_follow_107 (lv_at hl 0 rfl) ?_
            refine lv_iload_n hx hb dX7_follow_109 rfl (lv_at hl 4 rfl) ?_
            obtain ⟨p45, hv⟩ := hv
            refine g_callVi (rest := []) hx hb hml hts hown hNw hA G [.int (iz r10), .int (iz y3)] (c_X7_elementEnd l w s42 _ r10 y3 p45) sh_80 rfl wm_465 wm_466 wm_467 wm_5 wm_468 hd_X7_elementEnd ⟨rfl, rfl, Nat.le_of_ble_eq_true rfl, Nat.le_of_ble_eq_true rfl⟩ rfl hl.1 (Nat.le_of_ble_eq_true rfl) rfl dX7_follow_110 ⟨Nat.zero_le _, Nat.zero_le _⟩ (fun r48 s46 H locs h47 G => ?_)
            obtain ⟨er48, es46⟩ := h47
            rw [es46] at G
            have hv := hv r48 er48
            refine lv_istore_n (lv' := [(3, .int (iz r48)), (5, .int (iz r10)), (0, .ref (gad w 80)), (1, .int (iz y1)), (2, .int (iz y2)), (4, .int (iz y4))]) hx hb dX7_follow_113 rfl hl (by decide) rfl (fun ls hl => ?_)
            refine g_iinc (k := 5) (x := y4) (n := 1) (lv' := [(4, .int (iz (y4 + 1))), (3, .int (iz r48)), (5, .int (iz r10)), (0, .ref (gad w 80)), (1, .int (iz y1)), (2, .int (iz y2))]) hx hb dX7_follow_114 hl rfl (by decide) rfl (fun ls hl => ?_)
            refine lv_goto (tgt := 17) hx hb dX7_follow_117 (by decide) ?_
            exact ih _ _ _ _ _ _ hv G (lv_sub hl [3, 4, 5, 1, 0] rfl)
          · have hv := hv.2 c44
            refine lv_aload_n hx hb dX7_follow_85 rfl (lv_at hl 1 rfl) ?_
            refine g_getR hx hb hts hown 11 90 inlX7 G sh_80 rfl (by decide) rfl wm_117 dX7_follow_86 ?_
            refine lv_iload_n hx hb dX7_follow_89 rfl (lv_at hl 2 rfl) ?_
            obtain ⟨o49, hv⟩ := hv
            refine g_ald hx hb G sh_90 o49.1 o49.2 (by decide) dX7_follow_90 ?_
            refine lv_iconst (v := iz (-1)) hx hb dX7_follow_91 rfl ?_
            obtain ⟨i50, hv⟩ := hv
            refine g_icmp_ne (tgt := 106) hx hb i50 ⟨by decide, by decide⟩ dX7_follow_92 (by decide) (fun c51 => ?_) (fun c51 => ?_)
            · have hv := hv.1 c51
              refine lv_aload_n hx hb dX7_follow_106 rfl (lv_at hl 1 rfl) ?_
              refine lv_iload hx hb dX7_follow_107 (lv_at hl 0 rfl) ?_
              refine lv_iload_n hx hb dX7_follow_109 rfl (lv_at hl 4 rfl) ?_
              obtain ⟨p52, hv⟩ := hv
              refine g_callVi (rest := []) hx hb hml hts hown hNw hA G [.int (iz r10), .int (iz y3)] (c_X7_elementEnd l w s42 _ r10 y3 p52) sh_80 rfl wm_465 wm_466 wm_467 wm_5 wm_468 hd_X7_elementEnd ⟨rfl, rfl, Nat.le_of_ble_eq_true rfl, Nat.le_of_ble_eq_true rfl⟩ rfl hl.1 (Nat.le_of_ble_eq_true rfl) rfl dX7_follow_110 ⟨Nat.zero_le _, Nat.zero_le _⟩ (fun r55 s53 H locs h54 G => ?_)
              obtain ⟨er55, es53⟩ := h54
              rw [es53] at G
              have hv := hv r55 er55
              refine lv_istore_n (lv' := [(3, .int (iz r55)), (5, .int (iz r10)), (0, .ref (gad w 80)), (1, .int (iz y1)), (2, .int (iz y2)), (4, .int (iz y4))]) hx hb dX7_follow_113 rfl hl (by decide) rfl (fun ls hl => ?_)
              refine g_iinc (k := 5) (x := y4) (n := 1) (lv' := [(4, .int (iz (y4 + 1))), (3, .int (iz r55)), (5, .int (iz r10)), (0, .ref (gad w 80)), (1, .int (iz y1)), (2, .int (iz y2))]) hx hb dX7_follow_114 hl rfl (by decide) rfl (fun ls hl => ?_)
              refine lv_goto (tgt := 17) hx hb dX7_follow_117 (by decide) ?_
              exact ih _ _ _ _ _ _ hv G (lv_sub hl [3, 4, 5, 1, 0] rfl)
            · have hv := hv.2 c51
              refine lv_aload_n hx hb dX7_follow_95 rfl (lv_at hl 1 rfl) ?_
              refine g_getR hx hb hts hown 11 90 inlX7 G sh_80 rfl (by decide) rfl wm_117 dX7_follow_96 ?_
              refine lv_iload_n hx hb dX7_follow_99 rfl (lv_at hl 2 rfl) ?_
              refine lv_aload_n hx hb dX7_follow_100 rfl (lv_at hl 1 rfl) ?_
              refine lv_iload_n hx hb dX7_follow_101 rfl (lv_at hl 4 rfl) ?_
              obtain ⟨p56, hv⟩ := hv
              refine g_callVi (rest := [.int (iz y1), .ref (gad w 90)]) hx hb hml hts hown hNw hA G [.int (iz y3)] (c_X7_numberAt l w s42 _ y3 p56) sh_80 rfl wm_509 wm_510 wm_511 wm_5 wm_512 hd_X7_numberAt ⟨rfl, rfl, Nat.le_of_ble_eq_true rfl, Nat.le_of_ble_eq_true rfl⟩ rfl hl.1 (Nat.le_of_ble_eq_true rfl) rfl dX7_follow_102 ⟨Nat.zero_le _, Nat.zero_le _⟩ (fun r59 s57 H locs h58 G => ?_)
              obtain ⟨er59, es57⟩ := h58
              rw [es57] at G
              have hv := hv r59 er59
              obtain ⟨o60, hv⟩ := hv
              refine g_ast hx hb G sh_90 o60.1 o60.2 (by decide) dX7_follow_105 (fun s61 es61 H locs G => ?_)
              have hv := hv s61 es61
              refine lv_aload_n hx hb dX7_follow_106 rfl (lv_at hl 1 rfl) ?_
              refine lv_iload hx hb dX7_follow_107 (lv_at hl 0 rfl) ?_
              refine lv_iload_n hx hb dX7_follow_109 rfl (lv_at hl 4 rfl) ?_
              obtain ⟨p62, hv⟩ := hv
              refine g_callVi (rest := []) hx hb hml hts hown hNw hA G [.int (iz r10), .int (iz y3)] (c_X7_elementEnd l w s61 _ r10 y3 p62) sh_80 rfl wm_465 wm_466 wm_467 wm_5 wm_468 hd_X7_elementEnd ⟨rfl, rfl, Nat.le_of_ble_eq_true rfl, Nat.le_of_ble_eq_true rfl⟩ rfl hl.1 (Nat.le_of_ble_eq_true rfl) rfl dX7_follow_110 ⟨Nat.zero_le _, Nat.zero_le _⟩ (fun r65 s63 H locs h64 G => ?_)
              obtain ⟨er65, es63⟩ := h64
              rw [es63] at G
              have hv := hv r65 er65
              refine lv_istore_n (lv' := [(3, .int (iz r65)), (5, .int (iz r10)), (0, .ref (gad w 80)), (1, .int (iz y1)), (2, .int (iz y2)), (4, .int (iz y4))]) hx hb dX7_follow_113 rfl hl (by decide) rfl (fun ls hl => ?_)
              refine g_iinc (k := 5) (x := y4) (n := 1) (lv' := [(4, .int (iz (y4 + 1))), (3, .int (iz r65)), (5, .int (iz r10)), (0, .ref (gad w 80)), (1, .int (iz y1)), (2, .int (iz y2))]) hx hb dX7_follow_114 hl rfl (by decide) rfl (fun ls hl => ?_)
              refine lv_goto (tgt := 17) hx hb dX7_follow_117 (by decide) ?_
              exact ih _ _ _ _ _ _ hv G (lv_sub hl [3, 4, 5, 1, 0] rfl)
      · have hv := hv.2 c12
        refine lv_aload_n hx hb dX7_follow_47 rfl (lv_at hl 1 rfl) ?_
        refine lv_iload_n hx hb dX7_follow_48 rfl (lv_at hl 2 rfl) ?_
        refine lv_iload hx hb dX7_follow_49 (lv_at hl 5 rfl) ?_
        refine lv_iload_n hx hb dX7_follow_51 rfl (lv_at hl 4 rfl) ?_
        obtain ⟨p66, hv⟩ := hv
        refine g_callVi (rest := []) hx hb hml hts hown hNw hA G [.int (iz y1), .int (iz y4), .int (iz y3)] (c_X7_followWater l w σ _ y1 y4 y3 p66) sh_80 rfl wm_505 wm_506 wm_507 wm_5 wm_508 hd_X7_followWater ⟨rfl, rfl, Nat.le_of_ble_eq_true rfl, Nat.le_of_ble_eq_true rfl⟩ rfl hl.1 (Nat.le_of_ble_eq_true rfl) rfl dX7_follow_52 ⟨Nat.zero_le _, Nat.zero_le _⟩ (fun r69 s67 H locs h68 G => ?_)
        have hv := hv r69 s67 h68
        refine lv_istore_n (lv' := [(3, .int (iz r69)), (5, .int (iz r10)), (0, .ref (gad w 80)), (1, .int (iz y1)), (2, .int (iz y2)), (4, .int (iz y4))]) hx hb dX7_follow_55 rfl hl (by decide) rfl (fun ls hl => ?_)
        refine lv_goto (tgt := 114) hx hb dX7_follow_56 (by decide) ?_
        refine g_iinc (k := 5) (x := y4) (n := 1) (lv' := [(4, .int (iz (y4 + 1))), (3, .int (iz r69)), (5, .int (iz r10)), (0, .ref (gad w 80)), (1, .int (iz y1)), (2, .int (iz y2))]) hx hb dX7_follow_114 hl rfl (by decide) rfl (fun ls hl => ?_)
        refine lv_goto (tgt := 17) hx hb dX7_follow_117 (by decide) ?_
        exact ih _ _ _ _ _ _ hv G (lv_sub hl [3, 4, 5, 1, 0] rfl)
set_option maxHeartbeats 4000000 in
set_option maxRecDepth 100000 in
theorem c_X7_follow (l : Launch) (w : GW) (σ : St) (sz : Nat) (x1 : Int) (hp : pre_X7_follow x1 σ) : Met l yX7_follow (Cond.code yX7_follow cX7_follow 6 none :: wsL_law) rm_X7_follow (gPc w gSL σ sz [.ref (gad w 80), .int (iz x1)]) (gQv w gSL sz (post_X7_follow x1 σ)) 0 0 (gA w gSL.length sz) := by
  have hv : V_X7_follow x1 σ (post_X7_follow x1 σ) := v_X7_follow x1 σ hp
  refine g_met (by decide) [.ref (gad w 80), .int (iz x1)] (Nat.le_of_ble_eq_true rfl) ?_
  intro p e s m below meth c ls hz C0 hl G
  obtain ⟨hx, hb, hr, hml, hown, hts, hlk, hNw, hA⟩ := id C0
  have hown : s.vm.findClass RX7 = some m.cls := hown
  have hl : lv_has ls 6 [(0, .ref (gad w 80)), (1, .int (iz x1))] := hl
  refine lv_aload_n hx hb dX7_follow_0 rfl (lv_at hl 0 rfl) ?_
  refine g_getR hx hb hts hown 7 86 inlX7 G sh_80 rfl (by decide) rfl wm_113 dX7_follow_1 ?_
  refine lv_iload_n hx hb dX7_follow_4 rfl (lv_at hl 1 rfl) ?_
  obtain ⟨o1, hv⟩ := hv
  refine g_ald hx hb G sh_86 o1.1 o1.2 (by decide) dX7_follow_5 ?_
  refine lv_istore_n (lv' := [(2, .int (iz (σ 86 x1))), (0, .ref (gad w 80)), (1, .int (iz x1))]) hx hb dX7_follow_6 rfl hl (by decide) rfl (fun ls hl => ?_)
  refine lv_aload_n hx hb dX7_follow_7 rfl (lv_at hl 1 rfl) ?_
  refine g_getR hx hb hts hown 8 87 inlX7 G sh_80 rfl (by decide) rfl wm_114 dX7_follow_8 ?_
  refine lv_iload_n hx hb dX7_follow_11 rfl (lv_at hl 2 rfl) ?_
  obtain ⟨o2, hv⟩ := hv
  refine g_ald hx hb G sh_87 o2.1 o2.2 (by decide) dX7_follow_12 ?_
  refine lv_istore_n (lv' := [(3, .int (iz (σ 87 x1))), (2, .int (iz (σ 86 x1))), (0, .ref (gad w 80)), (1, .int (iz x1))]) hx hb dX7_follow_13 rfl hl (by decide) rfl (fun ls hl => ?_)
  refine lv_iconst (v := iz 0) hx hb dX7_follow_14 rfl ?_
  refine lv_istore (lv' := [(4, .int (iz 0)), (3, .int (iz (σ 87 x1))), (2, .int (iz (σ 86 x1))), (0, .ref (gad w 80)), (1, .int (iz x1))]) hx hb dX7_follow_15 hl (by decide) rfl (fun ls hl => ?_)
  obtain ⟨n_, hv⟩ := hv
  exact lw_X7_follow_17 (l := l) (p := p) (e := e) hz C0 _ x1 (σ 86 x1) n_ _ _ _ _ _ _ hv G (lv_sub hl [3, 4, 2, 1, 0] rfl)
abbrev rm_X7_parse : Room := ({ frames := 6, cells := 0, slots := 0, locals := 140 } : Room)
theorem hd_X7_parse : yX7_parse.cls = RX7 ∧ yX7_parse.cls ≠ "java/lang/invoke/MethodHandle" ∧ yX7_parse.cls ≠ "java/lang/invoke/VarHandle" ∧ (parseMethodDescriptor yX7_parse.desc).map (fun d => d.parameters.length) = some 0 := ⟨rfl, by decide +kernel, by decide +kernel, by decide +kernel⟩
set_option maxHeartbeats 4000000 in
set_option maxRecDepth 100000 in
theorem lw_X7_parse_117 {p : Program} {l : Launch} {e : Env} {s : State} {m : MethodId} {args : Array Value} {below : List Frame} {meth : Method} {c : Code} {w : GW} {sz : Nat} (hz : s.heap.size = sz) (C0 : gC p s m args meth c cX7_parse none 4 yX7_parse.cls (gA w gSL.length sz)) (Q : St → Prop) : ∀ (n : Nat) (y3 : Int) (σ : St) (H : Heap) (locs : List Loc) (ls : Array Slot), L_X7_parse_117 Q n y3 σ → gS w gSL σ (gA w gSL.length sz) s s.heap H locs → lv_has ls 4 [(0, .ref (gad w 80)), (3, .int (iz y3))] → W p l e rm_X7_parse s m args below meth c H locs 0 0 (MQ below (gQv w gSL sz Q) args s 0 0 (gA w gSL.length sz)) (F0 m 117 ls []) := by
  obtain ⟨hx, hb, hr, hml, hown, hts, hlk, hNw, hA⟩ := id C0
  have hown : s.vm.findClass RX7 = some m.cls := hown
  intro n
  induction n with
  | zero => intro y3 σ H locs ls hv; exact hv.elim
  | succ n ih =>
    intro y3 σ H locs ls hv G hl
    refine lv_iload_n hx hb dX7_parse_117 rfl (lv_at hl 1 rfl) ?_
    refine lv_aload_n hx hb dX7_parse_118 rfl (lv_at hl 0 rfl) ?_
    refine g_getI hx hb hts hown 12 inlX7 G sh_80 rfl (by decide) rfl wm_489 dX7_parse_119 ?_
    obtain ⟨i11, hv⟩ := hv
    obtain ⟨i12, hv⟩ := hv
    refine g_icmp_ge (tgt := 136) hx hb i11 i12 dX7_parse_122 (by decide) (fun c13 => ?_) (fun c13 => ?_)
    · have hv := hv.1 c13
      exact g_vret hx hb hr hlk hz G hv dX7_parse_136
    · have hv := hv.2 c13
      refine lv_aload_n hx hb dX7_parse_125 rfl (lv_at hl 0 rfl) ?_
      refine lv_iload_n hx hb dX7_parse_126 rfl (lv_at hl 1 rfl) ?_
      obtain ⟨p14, hv⟩ := hv
      refine g_callVv (rest := []) hx hb hml hts hown hNw hA G [.int (iz y3)] (c_X7_follow l w σ _ y3 p14) sh_80 rfl wm_501 wm_502 wm_503 wm_5 wm_504 hd_X7_follow ⟨rfl, rfl, Nat.le_of_ble_eq_true rfl, Nat.le_of_ble_eq_true rfl⟩ rfl hl.1 (Nat.le_of_ble_eq_true rfl) rfl dX7_parse_127 ⟨Nat.zero_le _, Nat.zero_le _⟩ (fun s15 H locs h16 G => ?_)
      have hv := hv s15 h16
      refine g_iinc (k := 1) (x := y3) (n := 1) (lv' := [(3, .int (iz (y3 + 1))), (0, .ref (gad w 80))]) hx hb dX7_parse_130 hl rfl (by decide) rfl (fun ls hl => ?_)
      refine lv_goto (tgt := 117) hx hb dX7_parse_133 (by decide) ?_
      exact ih _ _ _ _ _ hv G (lv_sub hl [1, 0] rfl)
set_option maxHeartbeats 4000000 in
set_option maxRecDepth 100000 in
theorem lw_X7_parse_23 {p : Program} {l : Launch} {e : Env} {s : State} {m : MethodId} {args : Array Value} {below : List Frame} {meth : Method} {c : Code} {w : GW} {sz : Nat} (hz : s.heap.size = sz) (C0 : gC p s m args meth c cX7_parse none 4 yX7_parse.cls (gA w gSL.length sz)) (Q : St → Prop) : ∀ (n : Nat) (y1 y2 : Int) (σ : St) (H : Heap) (locs : List Loc) (ls : Array Slot), L_X7_parse_23 Q n y1 y2 σ → gS w gSL σ (gA w gSL.length sz) s s.heap H locs → lv_has ls 4 [(0, .ref (gad w 80)), (1, .int (iz y1)), (2, .int (iz y2))] → W p l e rm_X7_parse s m args below meth c H locs 0 0 (MQ below (gQv w gSL sz Q) args s 0 0 (gA w gSL.length sz)) (F0 m 23 ls []) := by
  obtain ⟨hx, hb, hr, hml, hown, hts, hlk, hNw, hA⟩ := id C0
  have hown : s.vm.findClass RX7 = some m.cls := hown
  intro n
  induction n with
  | zero => intro y1 y2 σ H locs ls hv; exact hv.elim
  | succ n ih =>
    intro y1 y2 σ H locs ls hv G hl
    refine lv_iload_n hx hb dX7_parse_23 rfl (lv_at hl 2 rfl) ?_
    refine lv_aload_n hx hb dX7_parse_24 rfl (lv_at hl 0 rfl) ?_
    refine g_getR hx hb hts hown 0 81 inlX7 G sh_80 rfl (by decide) rfl wm_108 dX7_parse_25 ?_
    refine lv_iconst (v := iz 0) hx hb dX7_parse_28 rfl ?_
    refine g_ald hx hb G sh_81 (by decide) (by decide) (by decide) dX7_parse_29 ?_
    obtain ⟨i7, hv⟩ := hv
    obtain ⟨i8, hv⟩ := hv
    refine g_icmp_ge (tgt := 107) hx hb i7 i8 dX7_parse_30 (by decide) (fun c9 => ?_) (fun c9 => ?_)
    · have hv := hv.1 c9
      refine lv_aload_n hx hb dX7_parse_107 rfl (lv_at hl 0 rfl) ?_
      refine lv_aload_n hx hb dX7_parse_108 rfl (lv_at hl 0 rfl) ?_
      refine g_getI hx hb hts hown 12 inlX7 G sh_80 rfl (by decide) rfl wm_489 dX7_parse_109 ?_
      refine g_putI hx hb hts hown 13 inlX7 tyX7 tyX7_ok nmX7 G sh_80 rfl (by decide) rfl wm_496 rfl rfl rfl dX7_parse_112 (fun s10 es10 H locs G => ?_)
      have hv := hv s10 es10
      refine lv_iconst (v := iz 0) hx hb dX7_parse_115 rfl ?_
      refine lv_istore_n (lv' := [(3, .int (iz 0)), (0, .ref (gad w 80)), (1, .int (iz y1)), (2, .int (iz y2))]) hx hb dX7_parse_116 rfl hl (by decide) rfl (fun ls hl => ?_)
      obtain ⟨n_, hv⟩ := hv
      exact lw_X7_parse_117 (l := l) (p := p) (e := e) hz C0 _ n_ _ _ _ _ _ hv G (lv_sub hl [1, 0] rfl)
    · have hv := hv.2 c9
      refine lv_aload_n hx hb dX7_parse_33 rfl (lv_at hl 0 rfl) ?_
      refine lv_iload_n hx hb dX7_parse_34 rfl (lv_at hl 2 rfl) ?_
      obtain ⟨p17, hv⟩ := hv
      refine g_callVi (rest := []) hx hb hml hts hown hNw hA G [.int (iz y2)] (c_X7_islandAt l w σ _ y2 p17) sh_80 rfl wm_461 wm_462 wm_463 wm_5 wm_464 hd_X7_islandAt ⟨rfl, rfl, Nat.le_of_ble_eq_true rfl, Nat.le_of_ble_eq_true rfl⟩ rfl hl.1 (Nat.le_of_ble_eq_true rfl) rfl dX7_parse_35 ⟨Nat.zero_le _, Nat.zero_le _⟩ (fun r20 s18 H locs h19 G => ?_)
      obtain ⟨er20, es18⟩ := h19
      rw [es18] at G
      have hv := hv r20 er20
      refine lv_istore_n (lv' := [(3, .int (iz r20)), (0, .ref (gad w 80)), (1, .int (iz y1)), (2, .int (iz y2))]) hx hb dX7_parse_38 rfl hl (by decide) rfl (fun ls hl => ?_)
      refine lv_iload_n hx hb dX7_parse_39 rfl (lv_at hl 0 rfl) ?_
      refine lv_iconst (v := iz (-1)) hx hb dX7_parse_40 rfl ?_
      obtain ⟨i21, hv⟩ := hv
      refine g_icmp_eq (tgt := 68) hx hb i21 ⟨by decide, by decide⟩ dX7_parse_41 (by decide) (fun c22 => ?_) (fun c22 => ?_)
      · have hv := hv.1 c22
        refine lv_aload_n hx hb dX7_parse_68 rfl (lv_at hl 1 rfl) ?_
        refine lv_dup hx hb dX7_parse_69 rfl ?_
        refine g_getI hx hb hts hown 14 inlX7 G sh_80 rfl (by decide) rfl wm_494 dX7_parse_70 ?_
        refine lv_iconst (v := iz 1) hx hb dX7_parse_73 rfl ?_
        refine g_iadd hx hb dX7_parse_74 ?_
        refine g_putI hx hb hts hown 14 inlX7 tyX7 tyX7_ok nmX7 G sh_80 rfl (by decide) rfl wm_494 rfl rfl rfl dX7_parse_75 (fun s23 es23 H locs G => ?_)
        have hv := hv s23 es23
        refine g_iinc (k := 2) (x := y1) (n := 1) (lv' := [(1, .int (iz (y1 + 1))), (3, .int (iz r20)), (0, .ref (gad w 80)), (2, .int (iz y2))]) hx hb dX7_parse_78 hl rfl (by decide) rfl (fun ls hl => ?_)
        refine lv_aload_n hx hb dX7_parse_81 rfl (lv_at hl 2 rfl) ?_
        refine lv_iload_n hx hb dX7_parse_82 rfl (lv_at hl 0 rfl) ?_
        refine lv_aload_n hx hb dX7_parse_83 rfl (lv_at hl 2 rfl) ?_
        refine g_getI hx hb hts hown 15 inlX7 G sh_80 rfl (by decide) rfl wm_495 dX7_parse_84 ?_
        obtain ⟨i24, hv⟩ := hv
        obtain ⟨i25, hv⟩ := hv
        refine g_icmp_le (tgt := 94) hx hb i24 i25 dX7_parse_87 (by decide) (fun c26 => ?_) (fun c26 => ?_)
        · have hv := hv.1 c26
          refine lv_aload_n hx hb dX7_parse_94 rfl (lv_at hl 2 rfl) ?_
          refine g_getI hx hb hts hown 15 inlX7 G sh_80 rfl (by decide) rfl wm_495 dX7_parse_95 ?_
          refine g_putI hx hb hts hown 15 inlX7 tyX7 tyX7_ok nmX7 G sh_80 rfl (by decide) rfl wm_495 rfl rfl rfl dX7_parse_98 (fun s27 es27 H locs G => ?_)
          have hv := hv s27 es27
          refine g_iinc (k := 3) (x := y2) (n := 1) (lv' := [(2, .int (iz (y2 + 1))), (1, .int (iz (y1 + 1))), (3, .int (iz r20)), (0, .ref (gad w 80))]) hx hb dX7_parse_101 hl rfl (by decide) rfl (fun ls hl => ?_)
          refine lv_goto (tgt := 23) hx hb dX7_parse_104 (by decide) ?_
          exact ih _ _ _ _ _ _ hv G (lv_sub hl [3, 1, 0] rfl)
        · have hv := hv.2 c26
          refine lv_iload_n hx hb dX7_parse_90 rfl (lv_at hl 0 rfl) ?_
          refine lv_goto (tgt := 98) hx hb dX7_parse_91 (by decide) ?_
          refine g_putI hx hb hts hown 15 inlX7 tyX7 tyX7_ok nmX7 G sh_80 rfl (by decide) rfl wm_495 rfl rfl rfl dX7_parse_98 (fun s28 es28 H locs G => ?_)
          have hv := hv s28 es28
          refine g_iinc (k := 3) (x := y2) (n := 1) (lv' := [(2, .int (iz (y2 + 1))), (1, .int (iz (y1 + 1))), (3, .int (iz r20)), (0, .ref (gad w 80))]) hx hb dX7_parse_101 hl rfl (by decide) rfl (fun ls hl => ?_)
          refine lv_goto (tgt := 23) hx hb dX7_parse_104 (by decide) ?_
          exact ih _ _ _ _ _ _ hv G (lv_sub hl [3, 1, 0] rfl)
      · have hv := hv.2 c22
        refine lv_aload_n hx hb dX7_parse_44 rfl (lv_at hl 1 rfl) ?_
        refine lv_iload_n hx hb dX7_parse_45 rfl (lv_at hl 0 rfl) ?_
        refine lv_iload_n hx hb dX7_parse_46 rfl (lv_at hl 3 rfl) ?_
        refine lv_iconst (v := iz (-1)) hx hb dX7_parse_47 rfl ?_
        obtain ⟨p29, hv⟩ := hv
        refine g_callVv (rest := []) hx hb hml hts hown hNw hA G [.int (iz r20), .int (iz y2), .int (iz (-1))] (c_X7_addNode l w σ _ r20 y2 (-1) p29) sh_80 rfl wm_497 wm_498 wm_499 wm_5 wm_500 hd_X7_addNode ⟨rfl, rfl, Nat.le_of_ble_eq_true rfl, Nat.le_of_ble_eq_true rfl⟩ rfl hl.1 (Nat.le_of_ble_eq_true rfl) rfl dX7_parse_48 ⟨Nat.zero_le _, Nat.zero_le _⟩ (fun s30 H locs h31 G => ?_)
        have hv := hv s30 h31
        refine lv_aload_n hx hb dX7_parse_51 rfl (lv_at hl 1 rfl) ?_
        refine g_getR hx hb hts hown 6 85 inlX7 G sh_80 rfl (by decide) rfl wm_112 dX7_parse_52 ?_
        refine lv_iload_n hx hb dX7_parse_55 rfl (lv_at hl 0 rfl) ?_
        refine lv_iconst (v := iz 0) hx hb dX7_parse_56 rfl ?_
        refine lv_iload_n hx hb dX7_parse_57 rfl (lv_at hl 3 rfl) ?_
        obtain ⟨p32, hv⟩ := hv
        refine g_callSi (rest := [.ref (gad w 85)]) hx hb hml hts hown hNw hA G [.int (iz r20), .int (iz 0), .int (iz y2)] (c_X7_cell l w s30 _ r20 0 y2 p32) wm_450 wm_451 wm_5 wm_452 hd_X7_cell ⟨rfl, rfl, Nat.le_of_ble_eq_true rfl, Nat.le_of_ble_eq_true rfl⟩ rfl hl.1 (Nat.le_of_ble_eq_true rfl) rfl dX7_parse_58 ⟨Nat.zero_le _, Nat.zero_le _⟩ (fun r35 s33 H locs h34 G => ?_)
        obtain ⟨er35, es33⟩ := h34
        rw [es33] at G
        have hv := hv r35 er35
        obtain ⟨o36, hv⟩ := hv
        refine g_ald hx hb G sh_85 o36.1 o36.2 (by decide) dX7_parse_61 ?_
        refine lv_istore_n (lv' := [(2, .int (iz (s30 85 r35))), (3, .int (iz r20)), (0, .ref (gad w 80)), (1, .int (iz y1))]) hx hb dX7_parse_62 rfl hl (by decide) rfl (fun ls hl => ?_)
        refine lv_iconst (v := iz 0) hx hb dX7_parse_63 rfl ?_
        refine lv_istore_n (lv' := [(1, .int (iz 0)), (2, .int (iz (s30 85 r35))), (3, .int (iz r20)), (0, .ref (gad w 80))]) hx hb dX7_parse_64 rfl hl (by decide) rfl (fun ls hl => ?_)
        refine lv_goto (tgt := 104) hx hb dX7_parse_65 (by decide) ?_
        refine lv_goto (tgt := 23) hx hb dX7_parse_104 (by decide) ?_
        exact ih _ _ _ _ _ _ hv G (lv_sub hl [3, 0, 1] rfl)
set_option maxHeartbeats 4000000 in
set_option maxRecDepth 100000 in
theorem c_X7_parse (l : Launch) (w : GW) (σ : St) (sz : Nat) (hp : pre_X7_parse σ) : Met l yX7_parse (Cond.code yX7_parse cX7_parse 4 none :: wsL_law) rm_X7_parse (gPc w gSL σ sz [.ref (gad w 80)]) (gQv w gSL sz (post_X7_parse σ)) 0 0 (gA w gSL.length sz) := by
  have hv : V_X7_parse σ (post_X7_parse σ) := v_X7_parse σ hp
  refine g_met (by decide) [.ref (gad w 80)] (Nat.le_of_ble_eq_true rfl) ?_
  intro p e s m below meth c ls hz C0 hl G
  obtain ⟨hx, hb, hr, hml, hown, hts, hlk, hNw, hA⟩ := id C0
  have hown : s.vm.findClass RX7 = some m.cls := hown
  have hl : lv_has ls 4 [(0, .ref (gad w 80))] := hl
  refine lv_aload_n hx hb dX7_parse_0 rfl (lv_at hl 0 rfl) ?_
  obtain ⟨p1, hv⟩ := hv
  refine g_callVv (rest := []) hx hb hml hts hown hNw hA G [] (c_X7_findEnds l w σ _ p1) sh_80 rfl wm_446 wm_447 wm_448 wm_5 wm_449 hd_X7_findEnds ⟨rfl, rfl, Nat.le_of_ble_eq_true rfl, Nat.le_of_ble_eq_true rfl⟩ rfl hl.1 (Nat.le_of_ble_eq_true rfl) rfl dX7_parse_1 ⟨Nat.zero_le _, Nat.zero_le _⟩ (fun s2 H locs h3 G => ?_)
  have hv := hv s2 h3
  refine lv_aload_n hx hb dX7_parse_4 rfl (lv_at hl 0 rfl) ?_
  refine lv_iconst (v := iz 0) hx hb dX7_parse_5 rfl ?_
  refine g_putI hx hb hts hown 12 inlX7 tyX7 tyX7_ok nmX7 G sh_80 rfl (by decide) rfl wm_489 rfl rfl rfl dX7_parse_6 (fun s4 es4 H locs G => ?_)
  have hv := hv s4 es4
  refine lv_aload_n hx hb dX7_parse_9 rfl (lv_at hl 0 rfl) ?_
  refine lv_iconst (v := iz 0) hx hb dX7_parse_10 rfl ?_
  refine g_putI hx hb hts hown 14 inlX7 tyX7 tyX7_ok nmX7 G sh_80 rfl (by decide) rfl wm_494 rfl rfl rfl dX7_parse_11 (fun s5 es5 H locs G => ?_)
  have hv := hv s5 es5
  refine lv_aload_n hx hb dX7_parse_14 rfl (lv_at hl 0 rfl) ?_
  refine lv_iconst (v := iz 0) hx hb dX7_parse_15 rfl ?_
  refine g_putI hx hb hts hown 15 inlX7 tyX7 tyX7_ok nmX7 G sh_80 rfl (by decide) rfl wm_495 rfl rfl rfl dX7_parse_16 (fun s6 es6 H locs G => ?_)
  have hv := hv s6 es6
  refine lv_iconst (v := iz 0) hx hb dX7_parse_19 rfl ?_
  refine lv_istore_n (lv' := [(1, .int (iz 0)), (0, .ref (gad w 80))]) hx hb dX7_parse_20 rfl hl (by decide) rfl (fun ls hl => ?_)
  refine lv_iconst (v := iz 0) hx hb dX7_parse_21 rfl ?_
  refine lv_istore_n (lv' := [(2, .int (iz 0)), (1, .int (iz 0)), (0, .ref (gad w 80))]) hx hb dX7_parse_22 rfl hl (by decide) rfl (fun ls hl => ?_)
  obtain ⟨n_, hv⟩ := hv
  exact lw_X7_parse_23 (l := l) (p := p) (e := e) hz C0 _ n_ _ _ _ _ _ _ hv G (lv_sub hl [2, 1, 0] rfl)
abbrev rm_X7_numberOf : Room := ({ frames := 0, cells := 0, slots := 0, locals := 0 } : Room)
theorem hd_X7_numberOf : yX7_numberOf.cls = RX7 ∧ yX7_numberOf.cls ≠ "java/lang/invoke/MethodHandle" ∧ yX7_numberOf.cls ≠ "java/lang/invoke/VarHandle" ∧ (parseMethodDescriptor yX7_numberOf.desc).map (fun d => d.parameters.length) = some 1 := ⟨rfl, by decide +kernel, by decide +kernel, by decide +kernel⟩
set_option maxHeartbeats 4000000 in
set_option maxRecDepth 100000 in
theorem lw_X7_numberOf_4 {p : Program} {l : Launch} {e : Env} {s : State} {m : MethodId} {args : Array Value} {below : List Frame} {meth : Method} {c : Code} {w : GW} {sz : Nat} (hz : s.heap.size = sz) (C0 : gC p s m args meth c cX7_numberOf (some .int) 4 yX7_numberOf.cls (gA w gSL.length sz)) (Q : Int → St → Prop) (y1 : Int) : ∀ (n : Nat) (y2 y3 : Int) (σ : St) (H : Heap) (locs : List Loc) (ls : Array Slot), L_X7_numberOf_4 Q y1 n y2 y3 σ → gS w gSL σ (gA w gSL.length sz) s s.heap H locs → lv_has ls 4 [(0, .ref (gad w 80)), (1, .int (iz y1)), (2, .int (iz y2)), (3, .int (iz y3))] → W p l e rm_X7_numberOf s m args below meth c H locs 0 0 (MQ below (gQi w gSL sz Q) args s 0 0 (gA w gSL.length sz)) (F0 m 4 ls []) := by
  obtain ⟨hx, hb, hr, hml, hown, hts, hlk, hNw, hA⟩ := id C0
  have hown : s.vm.findClass RX7 = some m.cls := hown
  intro n
  induction n with
  | zero => intro y2 y3 σ H locs ls hv; exact hv.elim
  | succ n ih =>
    intro y2 y3 σ H locs ls hv G hl
    refine lv_iload_n hx hb dX7_numberOf_4 rfl (lv_at hl 3 rfl) ?_
    refine lv_aload_n hx hb dX7_numberOf_5 rfl (lv_at hl 0 rfl) ?_
    refine g_getI hx hb hts hown 12 inlX7 G sh_80 rfl (by decide) rfl wm_489 dX7_numberOf_6 ?_
    obtain ⟨i1, hv⟩ := hv
    obtain ⟨i2, hv⟩ := hv
    refine g_icmp_ge (tgt := 41) hx hb i1 i2 dX7_numberOf_9 (by decide) (fun c3 => ?_) (fun c3 => ?_)
    · have hv := hv.1 c3
      refine lv_iload_n hx hb dX7_numberOf_41 rfl (lv_at hl 2 rfl) ?_
      exact g_iret hx hb hr hlk hz G hv dX7_numberOf_42
    · have hv := hv.2 c3
      refine lv_iload_n hx hb dX7_numberOf_12 rfl (lv_at hl 2 rfl) ?_
      refine lv_aload_n hx hb dX7_numberOf_13 rfl (lv_at hl 0 rfl) ?_
      refine g_getR hx hb hts hown 8 87 inlX7 G sh_80 rfl (by decide) rfl wm_114 dX7_numberOf_14 ?_
      refine lv_iload_n hx hb dX7_numberOf_17 rfl (lv_at hl 3 rfl) ?_
      obtain ⟨o4, hv⟩ := hv
      refine g_ald hx hb G sh_87 o4.1 o4.2 (by decide) dX7_numberOf_18 ?_
      refine lv_aload_n hx hb dX7_numberOf_19 rfl (lv_at hl 0 rfl) ?_
      refine g_getR hx hb hts hown 8 87 inlX7 G sh_80 rfl (by decide) rfl wm_114 dX7_numberOf_20 ?_
      refine lv_iload_n hx hb dX7_numberOf_23 rfl (lv_at hl 1 rfl) ?_
      obtain ⟨o5, hv⟩ := hv
      refine g_ald hx hb G sh_87 o5.1 o5.2 (by decide) dX7_numberOf_24 ?_
      obtain ⟨i6, hv⟩ := hv
      obtain ⟨i7, hv⟩ := hv
      refine g_icmp_ge (tgt := 32) hx hb i6 i7 dX7_numberOf_25 (by decide) (fun c8 => ?_) (fun c8 => ?_)
      · have hv := hv.1 c8
        refine lv_iconst (v := iz 0) hx hb dX7_numberOf_32 rfl ?_
        refine g_iadd hx hb dX7_numberOf_33 ?_
        refine lv_istore_n (lv' := [(2, .int (iz (y2 + 0))), (0, .ref (gad w 80)), (1, .int (iz y1)), (3, .int (iz y3))]) hx hb dX7_numberOf_34 rfl hl (by decide) rfl (fun ls hl => ?_)
        refine g_iinc (k := 3) (x := y3) (n := 1) (lv' := [(3, .int (iz (y3 + 1))), (2, .int (iz (y2 + 0))), (0, .ref (gad w 80)), (1, .int (iz y1))]) hx hb dX7_numberOf_35 hl rfl (by decide) rfl (fun ls hl => ?_)
        refine lv_goto (tgt := 4) hx hb dX7_numberOf_38 (by decide) ?_
        exact ih _ _ _ _ _ _ hv G (lv_sub hl [2, 3, 1, 0] rfl)
      · have hv := hv.2 c8
        refine lv_iconst (v := iz 1) hx hb dX7_numberOf_28 rfl ?_
        refine lv_goto (tgt := 33) hx hb dX7_numberOf_29 (by decide) ?_
        refine g_iadd hx hb dX7_numberOf_33 ?_
        refine lv_istore_n (lv' := [(2, .int (iz (y2 + 1))), (0, .ref (gad w 80)), (1, .int (iz y1)), (3, .int (iz y3))]) hx hb dX7_numberOf_34 rfl hl (by decide) rfl (fun ls hl => ?_)
        refine g_iinc (k := 3) (x := y3) (n := 1) (lv' := [(3, .int (iz (y3 + 1))), (2, .int (iz (y2 + 1))), (0, .ref (gad w 80)), (1, .int (iz y1))]) hx hb dX7_numberOf_35 hl rfl (by decide) rfl (fun ls hl => ?_)
        refine lv_goto (tgt := 4) hx hb dX7_numberOf_38 (by decide) ?_
        exact ih _ _ _ _ _ _ hv G (lv_sub hl [2, 3, 1, 0] rfl)
set_option maxHeartbeats 4000000 in
set_option maxRecDepth 100000 in
theorem c_X7_numberOf (l : Launch) (w : GW) (σ : St) (sz : Nat) (x1 : Int) (hp : pre_X7_numberOf x1 σ) : Met l yX7_numberOf (Cond.code yX7_numberOf cX7_numberOf 4 (some .int) :: wsL_law) rm_X7_numberOf (gPc w gSL σ sz [.ref (gad w 80), .int (iz x1)]) (gQi w gSL sz (post_X7_numberOf x1 σ)) 0 0 (gA w gSL.length sz) := by
  have hv : V_X7_numberOf x1 σ (post_X7_numberOf x1 σ) := v_X7_numberOf x1 σ hp
  refine g_met (by decide) [.ref (gad w 80), .int (iz x1)] (Nat.le_of_ble_eq_true rfl) ?_
  intro p e s m below meth c ls hz C0 hl G
  obtain ⟨hx, hb, hr, hml, hown, hts, hlk, hNw, hA⟩ := id C0
  have hown : s.vm.findClass RX7 = some m.cls := hown
  have hl : lv_has ls 4 [(0, .ref (gad w 80)), (1, .int (iz x1))] := hl
  refine lv_iconst (v := iz 0) hx hb dX7_numberOf_0 rfl ?_
  refine lv_istore_n (lv' := [(2, .int (iz 0)), (0, .ref (gad w 80)), (1, .int (iz x1))]) hx hb dX7_numberOf_1 rfl hl (by decide) rfl (fun ls hl => ?_)
  refine lv_iconst (v := iz 0) hx hb dX7_numberOf_2 rfl ?_
  refine lv_istore_n (lv' := [(3, .int (iz 0)), (2, .int (iz 0)), (0, .ref (gad w 80)), (1, .int (iz x1))]) hx hb dX7_numberOf_3 rfl hl (by decide) rfl (fun ls hl => ?_)
  obtain ⟨n_, hv⟩ := hv
  exact lw_X7_numberOf_4 (l := l) (p := p) (e := e) hz C0 _ x1 n_ _ _ _ _ _ _ hv G (lv_sub hl [2, 3, 1, 0] rfl)
abbrev rm_X7_foundOf : Room := ({ frames := 1, cells := 0, slots := 0, locals := 23 } : Room)
theorem hd_X7_foundOf : yX7_foundOf.cls = RX7 ∧ yX7_foundOf.cls ≠ "java/lang/invoke/MethodHandle" ∧ yX7_foundOf.cls ≠ "java/lang/invoke/VarHandle" ∧ (parseMethodDescriptor yX7_foundOf.desc).map (fun d => d.parameters.length) = some 1 := ⟨rfl, by decide +kernel, by decide +kernel, by decide +kernel⟩
set_option maxHeartbeats 4000000 in
set_option maxRecDepth 100000 in
theorem lw_X7_foundOf_2 {p : Program} {l : Launch} {e : Env} {s : State} {m : MethodId} {args : Array Value} {below : List Frame} {meth : Method} {c : Code} {w : GW} {sz : Nat} (hz : s.heap.size = sz) (C0 : gC p s m args meth c cX7_foundOf (some .int) 3 yX7_foundOf.cls (gA w gSL.length sz)) (Q : Int → St → Prop) (y1 : Int) : ∀ (n : Nat) (y2 : Int) (σ : St) (H : Heap) (locs : List Loc) (ls : Array Slot), L_X7_foundOf_2 Q y1 n y2 σ → gS w gSL σ (gA w gSL.length sz) s s.heap H locs → lv_has ls 3 [(0, .ref (gad w 80)), (1, .int (iz y1)), (2, .int (iz y2))] → W p l e rm_X7_foundOf s m args below meth c H locs 0 0 (MQ below (gQi w gSL sz Q) args s 0 0 (gA w gSL.length sz)) (F0 m 2 ls []) := by
  obtain ⟨hx, hb, hr, hml, hown, hts, hlk, hNw, hA⟩ := id C0
  have hown : s.vm.findClass RX7 = some m.cls := hown
  intro n
  induction n with
  | zero => intro y2 σ H locs ls hv; exact hv.elim
  | succ n ih =>
    intro y2 σ H locs ls hv G hl
    refine lv_iload_n hx hb dX7_foundOf_2 rfl (lv_at hl 2 rfl) ?_
    refine lv_aload_n hx hb dX7_foundOf_3 rfl (lv_at hl 0 rfl) ?_
    refine g_getI hx hb hts hown 12 inlX7 G sh_80 rfl (by decide) rfl wm_489 dX7_foundOf_4 ?_
    obtain ⟨i1, hv⟩ := hv
    obtain ⟨i2, hv⟩ := hv
    refine g_icmp_ge (tgt := 27) hx hb i1 i2 dX7_foundOf_7 (by decide) (fun c3 => ?_) (fun c3 => ?_)
    · have hv := hv.1 c3
      refine lv_iconst (v := iz (-1)) hx hb dX7_foundOf_27 rfl ?_
      exact g_iret hx hb hr hlk hz G hv dX7_foundOf_28
    · have hv := hv.2 c3
      refine lv_aload_n hx hb dX7_foundOf_10 rfl (lv_at hl 0 rfl) ?_
      refine lv_iload_n hx hb dX7_foundOf_11 rfl (lv_at hl 2 rfl) ?_
      obtain ⟨p4, hv⟩ := hv
      refine g_callVi (rest := []) hx hb hml hts hown hNw hA G [.int (iz y2)] (c_X7_numberOf l w σ _ y2 p4) sh_80 rfl wm_550 wm_551 wm_552 wm_5 wm_553 hd_X7_numberOf ⟨rfl, rfl, Nat.le_of_ble_eq_true rfl, Nat.le_of_ble_eq_true rfl⟩ rfl hl.1 (Nat.le_of_ble_eq_true rfl) rfl dX7_foundOf_12 ⟨Nat.zero_le _, Nat.zero_le _⟩ (fun r7 s5 H locs h6 G => ?_)
      have hv := hv r7 s5 h6
      refine lv_iload_n hx hb dX7_foundOf_15 rfl (lv_at hl 1 rfl) ?_
      obtain ⟨i8, hv⟩ := hv
      obtain ⟨i9, hv⟩ := hv
      refine g_icmp_ne (tgt := 21) hx hb i8 i9 dX7_foundOf_16 (by decide) (fun c10 => ?_) (fun c10 => ?_)
      · have hv := hv.1 c10
        refine g_iinc (k := 2) (x := y2) (n := 1) (lv' := [(2, .int (iz (y2 + 1))), (0, .ref (gad w 80)), (1, .int (iz y1))]) hx hb dX7_foundOf_21 hl rfl (by decide) rfl (fun ls hl => ?_)
        refine lv_goto (tgt := 2) hx hb dX7_foundOf_24 (by decide) ?_
        exact ih _ _ _ _ _ hv G (lv_sub hl [1, 2, 0] rfl)
      · have hv := hv.2 c10
        refine lv_iload_n hx hb dX7_foundOf_19 rfl (lv_at hl 2 rfl) ?_
        exact g_iret hx hb hr hlk hz G hv dX7_foundOf_20
set_option maxHeartbeats 4000000 in
set_option maxRecDepth 100000 in
theorem c_X7_foundOf (l : Launch) (w : GW) (σ : St) (sz : Nat) (x1 : Int) (hp : pre_X7_foundOf x1 σ) : Met l yX7_foundOf (Cond.code yX7_foundOf cX7_foundOf 3 (some .int) :: wsL_law) rm_X7_foundOf (gPc w gSL σ sz [.ref (gad w 80), .int (iz x1)]) (gQi w gSL sz (post_X7_foundOf x1 σ)) 0 0 (gA w gSL.length sz) := by
  have hv : V_X7_foundOf x1 σ (post_X7_foundOf x1 σ) := v_X7_foundOf x1 σ hp
  refine g_met (by decide) [.ref (gad w 80), .int (iz x1)] (Nat.le_of_ble_eq_true rfl) ?_
  intro p e s m below meth c ls hz C0 hl G
  obtain ⟨hx, hb, hr, hml, hown, hts, hlk, hNw, hA⟩ := id C0
  have hown : s.vm.findClass RX7 = some m.cls := hown
  have hl : lv_has ls 3 [(0, .ref (gad w 80)), (1, .int (iz x1))] := hl
  refine lv_iconst (v := iz 0) hx hb dX7_foundOf_0 rfl ?_
  refine lv_istore_n (lv' := [(2, .int (iz 0)), (0, .ref (gad w 80)), (1, .int (iz x1))]) hx hb dX7_foundOf_1 rfl hl (by decide) rfl (fun ls hl => ?_)
  obtain ⟨n_, hv⟩ := hv
  exact lw_X7_foundOf_2 (l := l) (p := p) (e := e) hz C0 _ x1 n_ _ _ _ _ _ hv G (lv_sub hl [1, 2, 0] rfl)
abbrev rm_X7_depthOf : Room := ({ frames := 0, cells := 0, slots := 0, locals := 0 } : Room)
theorem hd_X7_depthOf : yX7_depthOf.cls = RX7 ∧ yX7_depthOf.cls ≠ "java/lang/invoke/MethodHandle" ∧ yX7_depthOf.cls ≠ "java/lang/invoke/VarHandle" ∧ (parseMethodDescriptor yX7_depthOf.desc).map (fun d => d.parameters.length) = some 1 := ⟨rfl, by decide +kernel, by decide +kernel, by decide +kernel⟩
set_option maxHeartbeats 4000000 in
set_option maxRecDepth 100000 in
theorem lw_X7_depthOf_9 {p : Program} {l : Launch} {e : Env} {s : State} {m : MethodId} {args : Array Value} {below : List Frame} {meth : Method} {c : Code} {w : GW} {sz : Nat} (hz : s.heap.size = sz) (C0 : gC p s m args meth c cX7_depthOf (some .int) 4 yX7_depthOf.cls (gA w gSL.length sz)) (Q : Int → St → Prop) : ∀ (n : Nat) (y2 y3 : Int) (σ : St) (H : Heap) (locs : List Loc) (ls : Array Slot), L_X7_depthOf_9 Q n y2 y3 σ → gS w gSL σ (gA w gSL.length sz) s s.heap H locs → lv_has ls 4 [(0, .ref (gad w 80)), (2, .int (iz y2)), (3, .int (iz y3))] → W p l e rm_X7_depthOf s m args below meth c H locs 0 0 (MQ below (gQi w gSL sz Q) args s 0 0 (gA w gSL.length sz)) (F0 m 9 ls []) := by
  obtain ⟨hx, hb, hr, hml, hown, hts, hlk, hNw, hA⟩ := id C0
  have hown : s.vm.findClass RX7 = some m.cls := hown
  intro n
  induction n with
  | zero => intro y2 y3 σ H locs ls hv; exact hv.elim
  | succ n ih =>
    intro y2 y3 σ H locs ls hv G hl
    refine lv_iload_n hx hb dX7_depthOf_9 rfl (lv_at hl 2 rfl) ?_
    refine lv_iconst (v := iz (-1)) hx hb dX7_depthOf_10 rfl ?_
    obtain ⟨i2, hv⟩ := hv
    refine g_icmp_eq (tgt := 27) hx hb i2 ⟨by decide, by decide⟩ dX7_depthOf_11 (by decide) (fun c3 => ?_) (fun c3 => ?_)
    · have hv := hv.1 c3
      refine lv_iload_n hx hb dX7_depthOf_27 rfl (lv_at hl 1 rfl) ?_
      exact g_iret hx hb hr hlk hz G hv dX7_depthOf_28
    · have hv := hv.2 c3
      refine g_iinc (k := 1) (x := y2) (n := 1) (lv' := [(2, .int (iz (y2 + 1))), (0, .ref (gad w 80)), (3, .int (iz y3))]) hx hb dX7_depthOf_14 hl rfl (by decide) rfl (fun ls hl => ?_)
      refine lv_aload_n hx hb dX7_depthOf_17 rfl (lv_at hl 1 rfl) ?_
      refine g_getR hx hb hts hown 9 88 inlX7 G sh_80 rfl (by decide) rfl wm_115 dX7_depthOf_18 ?_
      refine lv_iload_n hx hb dX7_depthOf_21 rfl (lv_at hl 2 rfl) ?_
      obtain ⟨o4, hv⟩ := hv
      refine g_ald hx hb G sh_88 o4.1 o4.2 (by decide) dX7_depthOf_22 ?_
      refine lv_istore_n (lv' := [(3, .int (iz (σ 88 y3))), (2, .int (iz (y2 + 1))), (0, .ref (gad w 80))]) hx hb dX7_depthOf_23 rfl hl (by decide) rfl (fun ls hl => ?_)
      refine lv_goto (tgt := 9) hx hb dX7_depthOf_24 (by decide) ?_
      exact ih _ _ _ _ _ _ hv G (lv_sub hl [2, 1, 0] rfl)
set_option maxHeartbeats 4000000 in
set_option maxRecDepth 100000 in
theorem c_X7_depthOf (l : Launch) (w : GW) (σ : St) (sz : Nat) (x1 : Int) (hp : pre_X7_depthOf x1 σ) : Met l yX7_depthOf (Cond.code yX7_depthOf cX7_depthOf 4 (some .int) :: wsL_law) rm_X7_depthOf (gPc w gSL σ sz [.ref (gad w 80), .int (iz x1)]) (gQi w gSL sz (post_X7_depthOf x1 σ)) 0 0 (gA w gSL.length sz) := by
  have hv : V_X7_depthOf x1 σ (post_X7_depthOf x1 σ) := v_X7_depthOf x1 σ hp
  refine g_met (by decide) [.ref (gad w 80), .int (iz x1)] (Nat.le_of_ble_eq_true rfl) ?_
  intro p e s m below meth c ls hz C0 hl G
  obtain ⟨hx, hb, hr, hml, hown, hts, hlk, hNw, hA⟩ := id C0
  have hown : s.vm.findClass RX7 = some m.cls := hown
  have hl : lv_has ls 4 [(0, .ref (gad w 80)), (1, .int (iz x1))] := hl
  refine lv_iconst (v := iz 0) hx hb dX7_depthOf_0 rfl ?_
  refine lv_istore_n (lv' := [(2, .int (iz 0)), (0, .ref (gad w 80)), (1, .int (iz x1))]) hx hb dX7_depthOf_1 rfl hl (by decide) rfl (fun ls hl => ?_)
  refine lv_aload_n hx hb dX7_depthOf_2 rfl (lv_at hl 1 rfl) ?_
  refine g_getR hx hb hts hown 9 88 inlX7 G sh_80 rfl (by decide) rfl wm_115 dX7_depthOf_3 ?_
  refine lv_iload_n hx hb dX7_depthOf_6 rfl (lv_at hl 2 rfl) ?_
  obtain ⟨o1, hv⟩ := hv
  refine g_ald hx hb G sh_88 o1.1 o1.2 (by decide) dX7_depthOf_7 ?_
  refine lv_istore_n (lv' := [(3, .int (iz (σ 88 x1))), (2, .int (iz 0)), (0, .ref (gad w 80)), (1, .int (iz x1))]) hx hb dX7_depthOf_8 rfl hl (by decide) rfl (fun ls hl => ?_)
  obtain ⟨n_, hv⟩ := hv
  exact lw_X7_depthOf_9 (l := l) (p := p) (e := e) hz C0 _ n_ _ _ _ _ _ _ hv G (lv_sub hl [2, 1, 0] rfl)
abbrev rm_X7_parentOf : Room := ({ frames := 1, cells := 0, slots := 0, locals := 23 } : Room)
theorem hd_X7_parentOf : yX7_parentOf.cls = RX7 ∧ yX7_parentOf.cls ≠ "java/lang/invoke/MethodHandle" ∧ yX7_parentOf.cls ≠ "java/lang/invoke/VarHandle" ∧ (parseMethodDescriptor yX7_parentOf.desc).map (fun d => d.parameters.length) = some 1 := ⟨rfl, by decide +kernel, by decide +kernel, by decide +kernel⟩
set_option maxHeartbeats 4000000 in
set_option maxRecDepth 100000 in
theorem c_X7_parentOf (l : Launch) (w : GW) (σ : St) (sz : Nat) (x1 : Int) (hp : pre_X7_parentOf x1 σ) : Met l yX7_parentOf (Cond.code yX7_parentOf cX7_parentOf 2 (some .int) :: wsL_law) rm_X7_parentOf (gPc w gSL σ sz [.ref (gad w 80), .int (iz x1)]) (gQi w gSL sz (post_X7_parentOf x1 σ)) 0 0 (gA w gSL.length sz) := by
  have hv : V_X7_parentOf x1 σ (post_X7_parentOf x1 σ) := v_X7_parentOf x1 σ hp
  refine g_met (by decide) [.ref (gad w 80), .int (iz x1)] (Nat.le_of_ble_eq_true rfl) ?_
  intro p e s m below meth c ls hz C0 hl G
  obtain ⟨hx, hb, hr, hml, hown, hts, hlk, hNw, hA⟩ := id C0
  have hown : s.vm.findClass RX7 = some m.cls := hown
  have hl : lv_has ls 2 [(0, .ref (gad w 80)), (1, .int (iz x1))] := hl
  refine lv_aload_n hx hb dX7_parentOf_0 rfl (lv_at hl 0 rfl) ?_
  refine g_getR hx hb hts hown 9 88 inlX7 G sh_80 rfl (by decide) rfl wm_115 dX7_parentOf_1 ?_
  refine lv_iload_n hx hb dX7_parentOf_4 rfl (lv_at hl 1 rfl) ?_
  obtain ⟨o1, hv⟩ := hv
  refine g_ald hx hb G sh_88 o1.1 o1.2 (by decide) dX7_parentOf_5 ?_
  refine lv_iconst (v := iz (-1)) hx hb dX7_parentOf_6 rfl ?_
  obtain ⟨i2, hv⟩ := hv
  refine g_icmp_ne (tgt := 14) hx hb i2 ⟨by decide, by decide⟩ dX7_parentOf_7 (by decide) (fun c3 => ?_) (fun c3 => ?_)
  · have hv := hv.1 c3
    refine lv_aload_n hx hb dX7_parentOf_14 rfl (lv_at hl 0 rfl) ?_
    refine lv_aload_n hx hb dX7_parentOf_15 rfl (lv_at hl 0 rfl) ?_
    refine g_getR hx hb hts hown 9 88 inlX7 G sh_80 rfl (by decide) rfl wm_115 dX7_parentOf_16 ?_
    refine lv_iload_n hx hb dX7_parentOf_19 rfl (lv_at hl 1 rfl) ?_
    obtain ⟨o4, hv⟩ := hv
    refine g_ald hx hb G sh_88 o4.1 o4.2 (by decide) dX7_parentOf_20 ?_
    obtain ⟨p5, hv⟩ := hv
    refine g_callVi (rest := []) hx hb hml hts hown hNw hA G [.int (iz (σ 88 x1))] (c_X7_numberOf l w σ _ (σ 88 x1) p5) sh_80 rfl wm_550 wm_551 wm_552 wm_5 wm_553 hd_X7_numberOf ⟨rfl, rfl, Nat.le_of_ble_eq_true rfl, Nat.le_of_ble_eq_true rfl⟩ rfl hl.1 (Nat.le_of_ble_eq_true rfl) rfl dX7_parentOf_21 ⟨Nat.zero_le _, Nat.zero_le _⟩ (fun r8 s6 H locs h7 G => ?_)
    have hv := hv r8 s6 h7
    exact g_iret hx hb hr hlk hz G hv dX7_parentOf_24
  · have hv := hv.2 c3
    refine lv_iconst (v := iz (-1)) hx hb dX7_parentOf_10 rfl ?_
    refine lv_goto (tgt := 24) hx hb dX7_parentOf_11 (by decide) ?_
    exact g_iret hx hb hr hlk hz G hv dX7_parentOf_24
abbrev rm_X7_askNode : Room := ({ frames := 7, cells := 0, slots := 0, locals := 163 } : Room)
theorem hd_X7_askNode : yX7_askNode.cls = RX7 ∧ yX7_askNode.cls ≠ "java/lang/invoke/MethodHandle" ∧ yX7_askNode.cls ≠ "java/lang/invoke/VarHandle" ∧ (parseMethodDescriptor yX7_askNode.desc).map (fun d => d.parameters.length) = some 2 := ⟨rfl, by decide +kernel, by decide +kernel, by decide +kernel⟩
set_option maxHeartbeats 4000000 in
set_option maxRecDepth 100000 in
theorem c_X7_askNode (l : Launch) (w : GW) (σ : St) (sz : Nat) (x1 x2 : Int) (hp : pre_X7_askNode x1 x2 σ) : Met l yX7_askNode (Cond.code yX7_askNode cX7_askNode 4 (some .int) :: wsL_law) rm_X7_askNode (gPc w gSL σ sz [.ref (gad w 80), .int (iz x1), .int (iz x2)]) (gQi w gSL sz (post_X7_askNode x1 x2 σ)) 0 0 (gA w gSL.length sz) := by
  have hv : V_X7_askNode x1 x2 σ (post_X7_askNode x1 x2 σ) := v_X7_askNode x1 x2 σ hp
  refine g_met (by decide) [.ref (gad w 80), .int (iz x1), .int (iz x2)] (Nat.le_of_ble_eq_true rfl) ?_
  intro p e s m below meth c ls hz C0 hl G
  obtain ⟨hx, hb, hr, hml, hown, hts, hlk, hNw, hA⟩ := id C0
  have hown : s.vm.findClass RX7 = some m.cls := hown
  have hl : lv_has ls 4 [(0, .ref (gad w 80)), (1, .int (iz x1)), (2, .int (iz x2))] := hl
  refine lv_aload_n hx hb dX7_askNode_0 rfl (lv_at hl 0 rfl) ?_
  obtain ⟨p1, hv⟩ := hv
  refine g_callVv (rest := []) hx hb hml hts hown hNw hA G [] (c_X7_parse l w σ _ p1) sh_80 rfl wm_490 wm_491 wm_492 wm_5 wm_493 hd_X7_parse ⟨rfl, rfl, Nat.le_of_ble_eq_true rfl, Nat.le_of_ble_eq_true rfl⟩ rfl hl.1 (Nat.le_of_ble_eq_true rfl) rfl dX7_askNode_1 ⟨Nat.zero_le _, Nat.zero_le _⟩ (fun s2 H locs h3 G => ?_)
  have hv := hv s2 h3
  refine lv_iload_n hx hb dX7_askNode_4 rfl (lv_at hl 1 rfl) ?_
  refine lv_iconst (v := iz 0) hx hb dX7_askNode_5 rfl ?_
  refine lv_aload_n hx hb dX7_askNode_6 rfl (lv_at hl 0 rfl) ?_
  refine g_getI hx hb hts hown 12 inlX7 G sh_80 rfl (by decide) rfl wm_489 dX7_askNode_7 ?_
  refine lv_iconst (v := iz 1) hx hb dX7_askNode_10 rfl ?_
  refine g_isub hx hb dX7_askNode_11 ?_
  obtain ⟨p4, hv⟩ := hv
  refine g_callSi (rest := []) hx hb hml hts hown hNw hA G [.int (iz x1), .int (iz 0), .int (iz ((s2 80 12) - 1))] (c_X7_in l w s2 _ x1 0 ((s2 80 12) - 1) p4) wm_176 wm_177 wm_5 wm_178 hd_X7_in ⟨rfl, rfl, Nat.le_of_ble_eq_true rfl, Nat.le_of_ble_eq_true rfl⟩ rfl hl.1 (Nat.le_of_ble_eq_true rfl) rfl dX7_askNode_12 ⟨Nat.zero_le _, Nat.zero_le _⟩ (fun r7 s5 H locs h6 G => ?_)
  obtain ⟨er7, es5⟩ := h6
  rw [es5] at G
  have hv := hv r7 er7
  obtain ⟨i8, hv⟩ := hv
  refine g_if_ne (tgt := 25) hx hb i8 dX7_askNode_15 (by decide) (fun c9 => ?_) (fun c9 => ?_)
  · have hv := hv.1 c9
    refine lv_aload_n hx hb dX7_askNode_25 rfl (lv_at hl 0 rfl) ?_
    refine lv_iload_n hx hb dX7_askNode_26 rfl (lv_at hl 1 rfl) ?_
    obtain ⟨p10, hv⟩ := hv
    refine g_callVi (rest := []) hx hb hml hts hown hNw hA G [.int (iz x1)] (c_X7_foundOf l w s2 _ x1 p10) sh_80 rfl wm_546 wm_547 wm_548 wm_5 wm_549 hd_X7_foundOf ⟨rfl, rfl, Nat.le_of_ble_eq_true rfl, Nat.le_of_ble_eq_true rfl⟩ rfl hl.1 (Nat.le_of_ble_eq_true rfl) rfl dX7_askNode_27 ⟨Nat.zero_le _, Nat.zero_le _⟩ (fun r13 s11 H locs h12 G => ?_)
    have hv := hv r13 s11 h12
    refine lv_istore_n (lv' := [(3, .int (iz r13)), (0, .ref (gad w 80)), (1, .int (iz x1)), (2, .int (iz x2))]) hx hb dX7_askNode_30 rfl hl (by decide) rfl (fun ls hl => ?_)
    refine lv_iload_n hx hb dX7_askNode_31 rfl (lv_at hl 3 rfl) ?_
    obtain ⟨i14, hv⟩ := hv
    by_cases c16 : x2 = 0
    · have hv := hv.1 c16
      refine lv_tableIn (tgt := 72) (off := 40) hx hb dX7_askNode_32 (by rw [c16]; decide) (by rw [c16]; decide) (by rw [c16]; rfl) (by decide) ?_
      refine lv_aload_n hx hb dX7_askNode_72 rfl (lv_at hl 1 rfl) ?_
      refine g_getR hx hb hts hown 7 86 inlX7 G sh_80 rfl (by decide) rfl wm_113 dX7_askNode_73 ?_
      refine lv_iload_n hx hb dX7_askNode_76 rfl (lv_at hl 0 rfl) ?_
      obtain ⟨o15, hv⟩ := hv
      refine g_ald hx hb G sh_86 o15.1 o15.2 (by decide) dX7_askNode_77 ?_
      exact g_iret hx hb hr hlk hz G hv dX7_askNode_78
    replace hv := hv.2 c16
    by_cases c18 : x2 = 1
    · have hv := hv.1 c18
      refine lv_tableIn (tgt := 79) (off := 47) hx hb dX7_askNode_32 (by rw [c18]; decide) (by rw [c18]; decide) (by rw [c18]; rfl) (by decide) ?_
      refine lv_aload_n hx hb dX7_askNode_79 rfl (lv_at hl 1 rfl) ?_
      refine g_getR hx hb hts hown 8 87 inlX7 G sh_80 rfl (by decide) rfl wm_114 dX7_askNode_80 ?_
      refine lv_iload_n hx hb dX7_askNode_83 rfl (lv_at hl 0 rfl) ?_
      obtain ⟨o17, hv⟩ := hv
      refine g_ald hx hb G sh_87 o17.1 o17.2 (by decide) dX7_askNode_84 ?_
      exact g_iret hx hb hr hlk hz G hv dX7_askNode_85
    replace hv := hv.2 c18
    by_cases c23 : x2 = 2
    · have hv := hv.1 c23
      refine lv_tableIn (tgt := 86) (off := 54) hx hb dX7_askNode_32 (by rw [c23]; decide) (by rw [c23]; decide) (by rw [c23]; rfl) (by decide) ?_
      refine lv_aload_n hx hb dX7_askNode_86 rfl (lv_at hl 1 rfl) ?_
      refine lv_iload_n hx hb dX7_askNode_87 rfl (lv_at hl 0 rfl) ?_
      obtain ⟨p19, hv⟩ := hv
      refine g_callVi (rest := []) hx hb hml hts hown hNw hA G [.int (iz r13)] (c_X7_endOf l w s11 _ r13 p19) sh_80 rfl wm_554 wm_555 wm_556 wm_5 wm_557 hd_X7_endOf ⟨rfl, rfl, Nat.le_of_ble_eq_true rfl, Nat.le_of_ble_eq_true rfl⟩ rfl hl.1 (Nat.le_of_ble_eq_true rfl) rfl dX7_askNode_88 ⟨Nat.zero_le _, Nat.zero_le _⟩ (fun r22 s20 H locs h21 G => ?_)
      obtain ⟨er22, es20⟩ := h21
      rw [es20] at G
      have hv := hv r22 er22
      exact g_iret hx hb hr hlk hz G hv dX7_askNode_91
    replace hv := hv.2 c23
    by_cases c28 : x2 = 3
    · have hv := hv.1 c28
      refine lv_tableIn (tgt := 92) (off := 60) hx hb dX7_askNode_32 (by rw [c28]; decide) (by rw [c28]; decide) (by rw [c28]; rfl) (by decide) ?_
      refine lv_aload_n hx hb dX7_askNode_92 rfl (lv_at hl 1 rfl) ?_
      refine lv_iload_n hx hb dX7_askNode_93 rfl (lv_at hl 0 rfl) ?_
      obtain ⟨p24, hv⟩ := hv
      refine g_callVi (rest := []) hx hb hml hts hown hNw hA G [.int (iz r13)] (c_X7_parentOf l w s11 _ r13 p24) sh_80 rfl wm_558 wm_559 wm_560 wm_5 wm_561 hd_X7_parentOf ⟨rfl, rfl, Nat.le_of_ble_eq_true rfl, Nat.le_of_ble_eq_true rfl⟩ rfl hl.1 (Nat.le_of_ble_eq_true rfl) rfl dX7_askNode_94 ⟨Nat.zero_le _, Nat.zero_le _⟩ (fun r27 s25 H locs h26 G => ?_)
      have hv := hv r27 s25 h26
      exact g_iret hx hb hr hlk hz G hv dX7_askNode_97
    replace hv := hv.2 c28
    by_cases c33 : x2 = 4
    · have hv := hv.1 c33
      refine lv_tableIn (tgt := 98) (off := 66) hx hb dX7_askNode_32 (by rw [c33]; decide) (by rw [c33]; decide) (by rw [c33]; rfl) (by decide) ?_
      refine lv_aload_n hx hb dX7_askNode_98 rfl (lv_at hl 1 rfl) ?_
      refine lv_iload_n hx hb dX7_askNode_99 rfl (lv_at hl 0 rfl) ?_
      obtain ⟨p29, hv⟩ := hv
      refine g_callVi (rest := []) hx hb hml hts hown hNw hA G [.int (iz r13)] (c_X7_depthOf l w s11 _ r13 p29) sh_80 rfl wm_562 wm_563 wm_564 wm_5 wm_565 hd_X7_depthOf ⟨rfl, rfl, Nat.le_of_ble_eq_true rfl, Nat.le_of_ble_eq_true rfl⟩ rfl hl.1 (Nat.le_of_ble_eq_true rfl) rfl dX7_askNode_100 ⟨Nat.zero_le _, Nat.zero_le _⟩ (fun r32 s30 H locs h31 G => ?_)
      have hv := hv r32 s30 h31
      exact g_iret hx hb hr hlk hz G hv dX7_askNode_103
    replace hv := hv.2 c33
    by_cases c35 : x2 = 5
    · have hv := hv.1 c35
      refine lv_tableIn (tgt := 104) (off := 72) hx hb dX7_askNode_32 (by rw [c35]; decide) (by rw [c35]; decide) (by rw [c35]; rfl) (by decide) ?_
      refine lv_aload_n hx hb dX7_askNode_104 rfl (lv_at hl 1 rfl) ?_
      refine g_getR hx hb hts hown 10 89 inlX7 G sh_80 rfl (by decide) rfl wm_116 dX7_askNode_105 ?_
      refine lv_iload_n hx hb dX7_askNode_108 rfl (lv_at hl 0 rfl) ?_
      obtain ⟨o34, hv⟩ := hv
      refine g_ald hx hb G sh_89 o34.1 o34.2 (by decide) dX7_askNode_109 ?_
      exact g_iret hx hb hr hlk hz G hv dX7_askNode_110
    replace hv := hv.2 c35
    refine lv_tableOut (tgt := 111) hx hb dX7_askNode_32 (by rw [iz_toInt i14]; have := i14.1; omega) (by decide) ?_
    refine lv_aload_n hx hb dX7_askNode_111 rfl (lv_at hl 1 rfl) ?_
    refine g_getR hx hb hts hown 11 90 inlX7 G sh_80 rfl (by decide) rfl wm_117 dX7_askNode_112 ?_
    refine lv_iload_n hx hb dX7_askNode_115 rfl (lv_at hl 0 rfl) ?_
    obtain ⟨o36, hv⟩ := hv
    refine g_ald hx hb G sh_90 o36.1 o36.2 (by decide) dX7_askNode_116 ?_
    exact g_iret hx hb hr hlk hz G hv dX7_askNode_117
  · have hv := hv.2 c9
    refine lv_aload_n hx hb dX7_askNode_18 rfl (lv_at hl 0 rfl) ?_
    refine lv_bipush (v := iz (-2)) hx hb dX7_askNode_19 (by decide +kernel) ?_
    obtain ⟨p37, hv⟩ := hv
    refine g_callVi (rest := []) hx hb hml hts hown hNw hA G [.int (iz (-2))] (c_X7_fail l w s2 _ (-2) p37) sh_80 rfl wm_182 wm_183 wm_184 wm_5 wm_185 hd_X7_fail ⟨rfl, rfl, Nat.le_of_ble_eq_true rfl, Nat.le_of_ble_eq_true rfl⟩ rfl hl.1 (Nat.le_of_ble_eq_true rfl) rfl dX7_askNode_21 ⟨Nat.zero_le _, Nat.zero_le _⟩ (fun r40 s38 H locs h39 G => ?_)
    have hv := hv r40 h39.1 s38 h39.2
    exact g_iret hx hb hr hlk hz G hv dX7_askNode_24
