abbrev rm_X5_textSize : Room := ({ frames := 0, cells := 0, slots := 0, locals := 0 } : Room)
theorem hd_X5_textSize : yX5_textSize.cls = RX5 ∧ yX5_textSize.cls ≠ "java/lang/invoke/MethodHandle" ∧ yX5_textSize.cls ≠ "java/lang/invoke/VarHandle" ∧ (parseMethodDescriptor yX5_textSize.desc).map (fun d => d.parameters.length) = some 0 := ⟨rfl, by decide +kernel, by decide +kernel, by decide +kernel⟩
set_option maxHeartbeats 4000000 in
set_option maxRecDepth 100000 in
theorem c_X5_textSize (l : Launch) (w : GW) (σ : St) (sz : Nat) (hp : pre_X5_textSize σ) : Met l yX5_textSize (Cond.code yX5_textSize cX5_textSize 1 (some .int) :: wsL_law) rm_X5_textSize (gPc w gSL σ sz [.ref (gad w 1)]) (gQi w gSL sz (post_X5_textSize σ)) 0 0 (gA w gSL.length sz) := by
  have hv : V_X5_textSize σ (post_X5_textSize σ) := v_X5_textSize σ hp
  refine g_met (by decide) [.ref (gad w 1)] (Nat.le_of_ble_eq_true rfl) ?_
  intro p e s m below meth c ls hz C0 hl G
  obtain ⟨hx, hb, hr, hml, hown, hts, hlk, hNw, hA⟩ := id C0
  have hown : s.vm.findClass RX5 = some m.cls := hown
  have hl : lv_has ls 1 [(0, .ref (gad w 1))] := hl
  refine lv_aload_n hx hb dX5_textSize_0 rfl (lv_at hl 0 rfl) ?_
  refine g_getI hx hb hts hown 4 inlX5 G sh_1 rfl (by decide) rfl wm_44 dX5_textSize_1 ?_
  exact g_iret hx hb hr hlk hz G hv dX5_textSize_4
abbrev rm_X6_isByte : Room := ({ frames := 0, cells := 0, slots := 0, locals := 0 } : Room)
theorem hd_X6_isByte : yX6_isByte.cls ≠ "java/lang/invoke/MethodHandle" ∧ yX6_isByte.cls ≠ "java/lang/invoke/VarHandle" ∧ (parseMethodDescriptor yX6_isByte.desc).map (fun d => d.parameters.length) = some 1 := ⟨by decide +kernel, by decide +kernel, by decide +kernel⟩
set_option maxHeartbeats 4000000 in
set_option maxRecDepth 100000 in
theorem c_X6_isByte (l : Launch) (w : GW) (σ : St) (sz : Nat) (x0 : Int) (hp : pre_X6_isByte x0 σ) : Met l yX6_isByte (Cond.code yX6_isByte cX6_isByte 1 (some .boolean) :: wsL_law) rm_X6_isByte (gPc w gSL σ sz [.int (iz x0)]) (gQi w gSL sz (post_X6_isByte x0 σ)) 0 0 (gA w gSL.length sz) := by
  have hv : V_X6_isByte x0 σ (post_X6_isByte x0 σ) := v_X6_isByte x0 σ hp
  refine g_met (by decide) [.int (iz x0)] (Nat.le_of_ble_eq_true rfl) ?_
  intro p e s m below meth c ls hz C0 hl G
  obtain ⟨hx, hb, hr, hml, hown, hts, hlk, hNw, hA⟩ := id C0
  have hown : s.vm.findClass RX6 = some m.cls := hown
  have hl : lv_has ls 1 [(0, .int (iz x0))] := hl
  refine lv_iload_n hx hb dX6_isByte_0 rfl (lv_at hl 0 rfl) ?_
  refine lv_bipush (v := iz 32) hx hb dX6_isByte_1 (by decide +kernel) ?_
  obtain ⟨i1, hv⟩ := hv
  refine g_icmp_lt (tgt := 16) hx hb i1 ⟨by decide, by decide⟩ dX6_isByte_3 (by decide) (fun c2 => ?_) (fun c2 => ?_)
  · have hv := hv.1 c2
    refine lv_iconst (v := iz 0) hx hb dX6_isByte_16 rfl ?_
    exact g_zret hx hb hr hlk hz G (Or.inl rfl) hv dX6_isByte_17
  · have hv := hv.2 c2
    refine lv_iload_n hx hb dX6_isByte_6 rfl (lv_at hl 0 rfl) ?_
    refine lv_bipush (v := iz 126) hx hb dX6_isByte_7 (by decide +kernel) ?_
    refine g_icmp_gt (tgt := 16) hx hb i1 ⟨by decide, by decide⟩ dX6_isByte_9 (by decide) (fun c3 => ?_) (fun c3 => ?_)
    · have hv := hv.1 c3
      refine lv_iconst (v := iz 0) hx hb dX6_isByte_16 rfl ?_
      exact g_zret hx hb hr hlk hz G (Or.inl rfl) hv dX6_isByte_17
    · have hv := hv.2 c3
      refine lv_iconst (v := iz 1) hx hb dX6_isByte_12 rfl ?_
      refine lv_goto (tgt := 17) hx hb dX6_isByte_13 (by decide) ?_
      exact g_zret hx hb hr hlk hz G (Or.inr rfl) hv dX6_isByte_17
abbrev rm_X4_get : Room := ({ frames := 0, cells := 0, slots := 0, locals := 0 } : Room)
theorem hd_X4_get : yX4_get.cls = RX4 ∧ yX4_get.cls ≠ "java/lang/invoke/MethodHandle" ∧ yX4_get.cls ≠ "java/lang/invoke/VarHandle" ∧ (parseMethodDescriptor yX4_get.desc).map (fun d => d.parameters.length) = some 1 := ⟨rfl, by decide +kernel, by decide +kernel, by decide +kernel⟩
set_option maxHeartbeats 4000000 in
set_option maxRecDepth 100000 in
theorem c_X4_get (l : Launch) (w : GW) (σ : St) (sz : Nat) (k nn : Nat) (hik : isRow k nn) (x1 : Int) (hp : pre_X4_get k nn x1 σ) : Met l yX4_get (Cond.code yX4_get cX4_get 2 (some .int) :: wsL_law) rm_X4_get (gPc w gSL σ sz [.ref (gad w k), .int (iz x1)]) (gQi w gSL sz (post_X4_get k nn x1 σ)) 0 0 (gA w gSL.length sz) := by
  have hv : V_X4_get k nn x1 σ (post_X4_get k nn x1 σ) := v_X4_get k nn hik x1 σ hp
  refine g_met (by decide) [.ref (gad w k), .int (iz x1)] (Nat.le_of_ble_eq_true rfl) ?_
  intro p e s m below meth c ls hz C0 hl G
  obtain ⟨hx, hb, hr, hml, hown, hts, hlk, hNw, hA⟩ := id C0
  have hown : s.vm.findClass RX4 = some m.cls := hown
  have hl : lv_has ls 2 [(0, .ref (gad w k)), (1, .int (iz x1))] := hl
  refine lv_iload_n hx hb dX4_get_0 rfl (lv_at hl 1 rfl) ?_
  obtain ⟨i1, hv⟩ := hv
  refine g_if_lt (tgt := 22) hx hb i1 dX4_get_1 (by decide) (fun c2 => ?_) (fun c2 => ?_)
  · have hv := hv.1 c2
    refine lv_iconst (v := iz (-1)) hx hb dX4_get_22 rfl ?_
    exact g_iret hx hb hr hlk hz G hv dX4_get_23
  · have hv := hv.2 c2
    refine lv_iload_n hx hb dX4_get_4 rfl (lv_at hl 1 rfl) ?_
    refine lv_aload_n hx hb dX4_get_5 rfl (lv_at hl 0 rfl) ?_
    refine g_getR hx hb hts hown 0 (k+1) inlX4 G hik.1 rfl (by decide) rfl wm_50 dX4_get_6 ?_
    refine g_alen hx hb G hik.2 dX4_get_9 ?_
    obtain ⟨i3, hv⟩ := hv
    refine g_icmp_ge (tgt := 22) hx hb i1 i3 dX4_get_10 (by decide) (fun c4 => ?_) (fun c4 => ?_)
    · have hv := hv.1 c4
      refine lv_iconst (v := iz (-1)) hx hb dX4_get_22 rfl ?_
      exact g_iret hx hb hr hlk hz G hv dX4_get_23
    · have hv := hv.2 c4
      refine lv_aload_n hx hb dX4_get_13 rfl (lv_at hl 0 rfl) ?_
      refine g_getR hx hb hts hown 0 (k+1) inlX4 G hik.1 rfl (by decide) rfl wm_50 dX4_get_14 ?_
      refine lv_iload_n hx hb dX4_get_17 rfl (lv_at hl 1 rfl) ?_
      obtain ⟨o5, hv⟩ := hv
      refine g_ald hx hb G hik.2 o5.1 o5.2 (isRow_lt hik) dX4_get_18 ?_
      refine lv_goto (tgt := 23) hx hb dX4_get_19 (by decide) ?_
      exact g_iret hx hb hr hlk hz G hv dX4_get_23
abbrev rm_X4_set : Room := ({ frames := 0, cells := 0, slots := 0, locals := 0 } : Room)
theorem hd_X4_set : yX4_set.cls = RX4 ∧ yX4_set.cls ≠ "java/lang/invoke/MethodHandle" ∧ yX4_set.cls ≠ "java/lang/invoke/VarHandle" ∧ (parseMethodDescriptor yX4_set.desc).map (fun d => d.parameters.length) = some 2 := ⟨rfl, by decide +kernel, by decide +kernel, by decide +kernel⟩
set_option maxHeartbeats 4000000 in
set_option maxRecDepth 100000 in
theorem c_X4_set (l : Launch) (w : GW) (σ : St) (sz : Nat) (k nn : Nat) (hik : isRow k nn) (x1 x2 : Int) (hp : pre_X4_set k nn x1 x2 σ) : Met l yX4_set (Cond.code yX4_set cX4_set 3 none :: wsL_law) rm_X4_set (gPc w gSL σ sz [.ref (gad w k), .int (iz x1), .int (iz x2)]) (gQv w gSL sz (post_X4_set k nn x1 x2 σ)) 0 0 (gA w gSL.length sz) := by
  have hv : V_X4_set k nn x1 x2 σ (post_X4_set k nn x1 x2 σ) := v_X4_set k nn hik x1 x2 σ hp
  refine g_met (by decide) [.ref (gad w k), .int (iz x1), .int (iz x2)] (Nat.le_of_ble_eq_true rfl) ?_
  intro p e s m below meth c ls hz C0 hl G
  obtain ⟨hx, hb, hr, hml, hown, hts, hlk, hNw, hA⟩ := id C0
  have hown : s.vm.findClass RX4 = some m.cls := hown
  have hl : lv_has ls 3 [(0, .ref (gad w k)), (1, .int (iz x1)), (2, .int (iz x2))] := hl
  refine lv_iload_n hx hb dX4_set_0 rfl (lv_at hl 1 rfl) ?_
  obtain ⟨i1, hv⟩ := hv
  refine g_if_lt (tgt := 20) hx hb i1 dX4_set_1 (by decide) (fun c2 => ?_) (fun c2 => ?_)
  · have hv := hv.1 c2
    exact g_vret hx hb hr hlk hz G hv dX4_set_20
  · have hv := hv.2 c2
    refine lv_iload_n hx hb dX4_set_4 rfl (lv_at hl 1 rfl) ?_
    refine lv_aload_n hx hb dX4_set_5 rfl (lv_at hl 0 rfl) ?_
    refine g_getR hx hb hts hown 0 (k+1) inlX4 G hik.1 rfl (by decide) rfl wm_50 dX4_set_6 ?_
    refine g_alen hx hb G hik.2 dX4_set_9 ?_
    obtain ⟨i3, hv⟩ := hv
    refine g_icmp_ge (tgt := 20) hx hb i1 i3 dX4_set_10 (by decide) (fun c4 => ?_) (fun c4 => ?_)
    · have hv := hv.1 c4
      exact g_vret hx hb hr hlk hz G hv dX4_set_20
    · have hv := hv.2 c4
      refine lv_aload_n hx hb dX4_set_13 rfl (lv_at hl 0 rfl) ?_
      refine g_getR hx hb hts hown 0 (k+1) inlX4 G hik.1 rfl (by decide) rfl wm_50 dX4_set_14 ?_
      refine lv_iload_n hx hb dX4_set_17 rfl (lv_at hl 1 rfl) ?_
      refine lv_iload_n hx hb dX4_set_18 rfl (lv_at hl 2 rfl) ?_
      obtain ⟨o5, hv⟩ := hv
      refine g_ast hx hb G hik.2 o5.1 o5.2 (isRow_lt hik) dX4_set_19 (fun s6 es6 H locs G => ?_)
      have hv := hv s6 es6
      exact g_vret hx hb hr hlk hz G hv dX4_set_20
abbrev rm_X6_fail : Room := ({ frames := 1, cells := 0, slots := 0, locals := 22 } : Room)
theorem hd_X6_fail : yX6_fail.cls = RX6 ∧ yX6_fail.cls ≠ "java/lang/invoke/MethodHandle" ∧ yX6_fail.cls ≠ "java/lang/invoke/VarHandle" ∧ (parseMethodDescriptor yX6_fail.desc).map (fun d => d.parameters.length) = some 1 := ⟨rfl, by decide +kernel, by decide +kernel, by decide +kernel⟩
set_option maxHeartbeats 4000000 in
set_option maxRecDepth 100000 in
theorem c_X6_fail (l : Launch) (w : GW) (σ : St) (sz : Nat) (x1 : Int) (hp : pre_X6_fail x1 σ) : Met l yX6_fail (Cond.code yX6_fail cX6_fail 3 (some .int) :: wsL_law) rm_X6_fail (gPc w gSL σ sz [.ref (gad w 0), .int (iz x1)]) (gQi w gSL sz (post_X6_fail x1 σ)) 0 0 (gA w gSL.length sz) := by
  have hv : V_X6_fail x1 σ (post_X6_fail x1 σ) := v_X6_fail x1 σ hp
  refine g_met (by decide) [.ref (gad w 0), .int (iz x1)] (Nat.le_of_ble_eq_true rfl) ?_
  intro p e s m below meth c ls hz C0 hl G
  obtain ⟨hx, hb, hr, hml, hown, hts, hlk, hNw, hA⟩ := id C0
  have hown : s.vm.findClass RX6 = some m.cls := hown
  have hl : lv_has ls 3 [(0, .ref (gad w 0)), (1, .int (iz x1))] := hl
  refine lv_bipush (v := iz (-2)) hx hb dX6_fail_0 (by decide +kernel) ?_
  refine lv_iload_n hx hb dX6_fail_2 rfl (lv_at hl 1 rfl) ?_
  refine g_isub hx hb dX6_fail_3 ?_
  refine lv_istore_n (lv' := [(2, .int (iz ((-2) - x1))), (0, .ref (gad w 0)), (1, .int (iz x1))]) hx hb dX6_fail_4 rfl hl (by decide) rfl (fun ls hl => ?_)
  refine lv_aload_n hx hb dX6_fail_5 rfl (lv_at hl 1 rfl) ?_
  refine g_getR hx hb hts hown 3 50 inlX6 G sh_0 rfl (by decide) rfl wm_24 dX6_fail_6 ?_
  refine lv_iload_n hx hb dX6_fail_9 rfl (lv_at hl 0 rfl) ?_
  refine lv_aload_n hx hb dX6_fail_10 rfl (lv_at hl 1 rfl) ?_
  refine g_getR hx hb hts hown 3 50 inlX6 G sh_0 rfl (by decide) rfl wm_24 dX6_fail_11 ?_
  refine lv_iload_n hx hb dX6_fail_14 rfl (lv_at hl 0 rfl) ?_
  obtain ⟨p1, hv⟩ := hv
  refine g_callVi (rest := [.int (iz ((-2) - x1)), .ref (gad w 50)]) hx hb hml hts hown hNw hA G [.int (iz ((-2) - x1))] (c_X4_get l w σ _ 50 3 ⟨sh_50, sh_51⟩ ((-2) - x1) p1) sh_50 rfl wm_133 wm_134 wm_135 wm_22 wm_136 hd_X4_get ⟨rfl, rfl, Nat.le_of_ble_eq_true rfl, Nat.le_of_ble_eq_true rfl⟩ rfl hl.1 (Nat.le_of_ble_eq_true rfl) rfl dX6_fail_15 ⟨Nat.zero_le _, Nat.zero_le _⟩ (fun r4 s2 H locs h3 G => ?_)
  obtain ⟨er4, es2⟩ := h3
  rw [es2] at G
  have hv := hv r4 er4
  refine lv_iconst (v := iz 1) hx hb dX6_fail_18 rfl ?_
  refine g_iadd hx hb dX6_fail_19 ?_
  obtain ⟨p5, hv⟩ := hv
  refine g_callVv (rest := []) hx hb hml hts hown hNw hA G [.int (iz ((-2) - x1)), .int (iz (r4 + 1))] (c_X4_set l w σ _ 50 3 ⟨sh_50, sh_51⟩ ((-2) - x1) (r4 + 1) p5) sh_50 rfl wm_137 wm_138 wm_139 wm_22 wm_140 hd_X4_set ⟨rfl, rfl, Nat.le_of_ble_eq_true rfl, Nat.le_of_ble_eq_true rfl⟩ rfl hl.1 (Nat.le_of_ble_eq_true rfl) rfl dX6_fail_20 ⟨Nat.zero_le _, Nat.zero_le _⟩ (fun s6 H locs h7 G => ?_)
  have hv := hv s6 h7
  refine lv_iload_n hx hb dX6_fail_23 rfl (lv_at hl 2 rfl) ?_
  exact g_iret hx hb hr hlk hz G hv dX6_fail_24
abbrev rm_X1_slotAt : Room := ({ frames := 0, cells := 0, slots := 0, locals := 0 } : Room)
theorem hd_X1_slotAt : yX1_slotAt.cls = RX1 ∧ yX1_slotAt.cls ≠ "java/lang/invoke/MethodHandle" ∧ yX1_slotAt.cls ≠ "java/lang/invoke/VarHandle" ∧ (parseMethodDescriptor yX1_slotAt.desc).map (fun d => d.parameters.length) = some 1 := ⟨rfl, by decide +kernel, by decide +kernel, by decide +kernel⟩
set_option maxHeartbeats 4000000 in
set_option maxRecDepth 100000 in
theorem c_X1_slotAt (l : Launch) (w : GW) (σ : St) (sz : Nat) (x1 : Int) (hp : pre_X1_slotAt x1 σ) : Met l yX1_slotAt (Cond.code yX1_slotAt cX1_slotAt 2 (some (.object "IslandGrammar$State")) :: wsL_law) rm_X1_slotAt (gPc w gSL σ sz [.ref (gad w 10), .int (iz x1)]) (gQr w gSL sz (post_X1_slotAt x1 σ)) 0 0 (gA w gSL.length sz) := by
  have hv : V_X1_slotAt x1 σ (post_X1_slotAt x1 σ) := v_X1_slotAt x1 σ hp
  refine g_met (by decide) [.ref (gad w 10), .int (iz x1)] (Nat.le_of_ble_eq_true rfl) ?_
  intro p e s m below meth c ls hz C0 hl G
  obtain ⟨hx, hb, hr, hml, hown, hts, hlk, hNw, hA⟩ := id C0
  have hown : s.vm.findClass RX1 = some m.cls := hown
  have hl : lv_has ls 2 [(0, .ref (gad w 10)), (1, .int (iz x1))] := hl
  refine lv_aload_n hx hb dX1_slotAt_0 rfl (lv_at hl 0 rfl) ?_
  refine g_getR hx hb hts hown 0 11 inlX1 G sh_10 rfl (by decide) rfl wm_59 dX1_slotAt_1 ?_
  refine lv_iload_n hx hb dX1_slotAt_4 rfl (lv_at hl 1 rfl) ?_
  obtain ⟨i1, hv⟩ := hv
  refine g_if_lt (tgt := 21) hx hb i1 dX1_slotAt_5 (by decide) (fun c2 => ?_) (fun c2 => ?_)
  · have hv := hv.1 c2
    refine lv_iconst (v := iz 0) hx hb dX1_slotAt_21 rfl ?_
    obtain ⟨o3, hv⟩ := hv
    refine g_aald hx hb G sh_11 o3.1 o3.2 (by decide) dX1_slotAt_22 _ (ring_at o3.1 o3.2) ?_
    generalize eq4 : 12 + 9 * Int.toNat 0 = q4
    have hv := hv q4 eq4.symm
    exact g_rret hx hb hr ⟨_, rfl⟩ hlk hz G hv dX1_slotAt_23
  · have hv := hv.2 c2
    refine lv_iload_n hx hb dX1_slotAt_8 rfl (lv_at hl 1 rfl) ?_
    refine lv_aload_n hx hb dX1_slotAt_9 rfl (lv_at hl 0 rfl) ?_
    refine g_getR hx hb hts hown 0 11 inlX1 G sh_10 rfl (by decide) rfl wm_59 dX1_slotAt_10 ?_
    refine g_alenR hx hb G sh_11 dX1_slotAt_13 ?_
    refine g_icmp_ge (tgt := 21) hx hb i1 ⟨by decide, by decide⟩ dX1_slotAt_14 (by decide) (fun c5 => ?_) (fun c5 => ?_)
    · have hv := hv.1 c5
      refine lv_iconst (v := iz 0) hx hb dX1_slotAt_21 rfl ?_
      obtain ⟨o6, hv⟩ := hv
      refine g_aald hx hb G sh_11 o6.1 o6.2 (by decide) dX1_slotAt_22 _ (ring_at o6.1 o6.2) ?_
      generalize eq7 : 12 + 9 * Int.toNat 0 = q7
      have hv := hv q7 eq7.symm
      exact g_rret hx hb hr ⟨_, rfl⟩ hlk hz G hv dX1_slotAt_23
    · have hv := hv.2 c5
      refine lv_iload_n hx hb dX1_slotAt_17 rfl (lv_at hl 1 rfl) ?_
      refine lv_goto (tgt := 22) hx hb dX1_slotAt_18 (by decide) ?_
      obtain ⟨o8, hv⟩ := hv
      refine g_aald hx hb G sh_11 o8.1 o8.2 (by decide) dX1_slotAt_22 _ (ring_at o8.1 o8.2) ?_
      generalize eq9 : 12 + 9 * Int.toNat x1 = q9
      have hv := hv q9 eq9.symm
      exact g_rret hx hb hr ⟨_, rfl⟩ hlk hz G hv dX1_slotAt_23
abbrev rm_X4_copyFrom : Room := ({ frames := 1, cells := 0, slots := 0, locals := 13 } : Room)
theorem hd_X4_copyFrom : yX4_copyFrom.cls = RX4 ∧ yX4_copyFrom.cls ≠ "java/lang/invoke/MethodHandle" ∧ yX4_copyFrom.cls ≠ "java/lang/invoke/VarHandle" ∧ (parseMethodDescriptor yX4_copyFrom.desc).map (fun d => d.parameters.length) = some 1 := ⟨rfl, by decide +kernel, by decide +kernel, by decide +kernel⟩
set_option maxHeartbeats 4000000 in
set_option maxRecDepth 100000 in
theorem lw_X4_copyFrom_16 {p : Program} {l : Launch} {e : Env} {s : State} {m : MethodId} {args : Array Value} {below : List Frame} {meth : Method} {c : Code} {w : GW} {sz : Nat} (k nn : Nat) (k2 nn2 : Nat) (hik : isRow k nn) (hik2 : isRow k2 nn2) (hz : s.heap.size = sz) (C0 : gC p s m args meth c cX4_copyFrom none 4 yX4_copyFrom.cls (gA w gSL.length sz)) (Q : St → Prop) (y2 : Int) : ∀ (n : Nat) (y3 : Int) (σ : St) (H : Heap) (locs : List Loc) (ls : Array Slot), L_X4_copyFrom_16 k nn k2 nn2 Q y2 n y3 σ → gS w gSL σ (gA w gSL.length sz) s s.heap H locs → lv_has ls 4 [(0, .ref (gad w k)), (1, .ref (gad w k2)), (2, .int (iz y2)), (3, .int (iz y3))] → W p l e rm_X4_copyFrom s m args below meth c H locs 0 0 (MQ below (gQv w gSL sz Q) args s 0 0 (gA w gSL.length sz)) (F0 m 16 ls []) := by
  obtain ⟨hx, hb, hr, hml, hown, hts, hlk, hNw, hA⟩ := id C0
  have hown : s.vm.findClass RX4 = some m.cls := hown
  intro n
  induction n with
  | zero => intro y3 σ H locs ls hv; exact hv.elim
  | succ n ih =>
    intro y3 σ H locs ls hv G hl
    refine lv_iload_n hx hb dX4_copyFrom_16 rfl (lv_at hl 3 rfl) ?_
    refine lv_iload_n hx hb dX4_copyFrom_17 rfl (lv_at hl 2 rfl) ?_
    obtain ⟨i4, hv⟩ := hv
    obtain ⟨i5, hv⟩ := hv
    refine g_icmp_ge (tgt := 39) hx hb i4 i5 dX4_copyFrom_18 (by decide) (fun c6 => ?_) (fun c6 => ?_)
    · have hv := hv.1 c6
      exact g_vret hx hb hr hlk hz G hv dX4_copyFrom_39
    · have hv := hv.2 c6
      refine lv_aload_n hx hb dX4_copyFrom_21 rfl (lv_at hl 0 rfl) ?_
      refine g_getR hx hb hts hown 0 (k+1) inlX4 G hik.1 rfl (by decide) rfl wm_50 dX4_copyFrom_22 ?_
      refine lv_iload_n hx hb dX4_copyFrom_25 rfl (lv_at hl 3 rfl) ?_
      refine lv_aload_n hx hb dX4_copyFrom_26 rfl (lv_at hl 1 rfl) ?_
      refine g_getR hx hb hts hown 0 (k2+1) inlX4 G hik2.1 rfl (by decide) rfl wm_50 dX4_copyFrom_27 ?_
      refine lv_iload_n hx hb dX4_copyFrom_30 rfl (lv_at hl 3 rfl) ?_
      obtain ⟨o7, hv⟩ := hv
      refine g_ald hx hb G hik2.2 o7.1 o7.2 (isRow_lt hik2) dX4_copyFrom_31 ?_
      obtain ⟨o8, hv⟩ := hv
      refine g_ast hx hb G hik.2 o8.1 o8.2 (isRow_lt hik) dX4_copyFrom_32 (fun s9 es9 H locs G => ?_)
      have hv := hv s9 es9
      refine g_iinc (k := 3) (x := y3) (n := 1) (lv' := [(3, .int (iz (y3 + 1))), (0, .ref (gad w k)), (1, .ref (gad w k2)), (2, .int (iz y2))]) hx hb dX4_copyFrom_33 hl rfl (by decide) rfl (fun ls hl => ?_)
      refine lv_goto (tgt := 16) hx hb dX4_copyFrom_36 (by decide) ?_
      exact ih _ _ _ _ _ hv G (lv_sub hl [1, 2, 3, 0] rfl)
set_option maxHeartbeats 4000000 in
set_option maxRecDepth 100000 in
theorem c_X4_copyFrom (l : Launch) (w : GW) (σ : St) (sz : Nat) (k nn : Nat) (k2 nn2 : Nat) (hik : isRow k nn) (hik2 : isRow k2 nn2) (hp : pre_X4_copyFrom k nn k2 nn2 σ) : Met l yX4_copyFrom (Cond.code yX4_copyFrom cX4_copyFrom 4 none :: wsL_law) rm_X4_copyFrom (gPc w gSL σ sz [.ref (gad w k), .ref (gad w k2)]) (gQv w gSL sz (post_X4_copyFrom k nn k2 nn2 σ)) 0 0 (gA w gSL.length sz) := by
  have hv : V_X4_copyFrom k nn k2 nn2 σ (post_X4_copyFrom k nn k2 nn2 σ) := v_X4_copyFrom k nn k2 nn2 hik hik2 σ hp
  refine g_met (by decide) [.ref (gad w k), .ref (gad w k2)] (Nat.le_of_ble_eq_true rfl) ?_
  intro p e s m below meth c ls hz C0 hl G
  obtain ⟨hx, hb, hr, hml, hown, hts, hlk, hNw, hA⟩ := id C0
  have hown : s.vm.findClass RX4 = some m.cls := hown
  have hl : lv_has ls 4 [(0, .ref (gad w k)), (1, .ref (gad w k2))] := hl
  refine lv_aload_n hx hb dX4_copyFrom_0 rfl (lv_at hl 0 rfl) ?_
  refine g_getR hx hb hts hown 0 (k+1) inlX4 G hik.1 rfl (by decide) rfl wm_50 dX4_copyFrom_1 ?_
  refine g_alen hx hb G hik.2 dX4_copyFrom_4 ?_
  refine lv_aload_n hx hb dX4_copyFrom_5 rfl (lv_at hl 1 rfl) ?_
  refine g_getR hx hb hts hown 0 (k2+1) inlX4 G hik2.1 rfl (by decide) rfl wm_50 dX4_copyFrom_6 ?_
  refine g_alen hx hb G hik2.2 dX4_copyFrom_9 ?_
  obtain ⟨i1, hv⟩ := hv
  obtain ⟨i2, hv⟩ := hv
  refine g_min hx hb (hml.trans hl.1.symm) hts hown wm_165 wm_150 wm_151 wm_152 (Nat.le_of_ble_eq_true rfl) (Nat.le_of_ble_eq_true rfl) (Nat.zero_le _) (Nat.zero_le _) i1 i2 dX4_copyFrom_10 (fun r3 er3 => ?_)
  have hv := hv r3 er3
  refine lv_istore_n (lv' := [(2, .int (iz r3)), (0, .ref (gad w k)), (1, .ref (gad w k2))]) hx hb dX4_copyFrom_13 rfl hl (by decide) rfl (fun ls hl => ?_)
  refine lv_iconst (v := iz 0) hx hb dX4_copyFrom_14 rfl ?_
  refine lv_istore_n (lv' := [(3, .int (iz 0)), (2, .int (iz r3)), (0, .ref (gad w k)), (1, .ref (gad w k2))]) hx hb dX4_copyFrom_15 rfl hl (by decide) rfl (fun ls hl => ?_)
  obtain ⟨n_, hv⟩ := hv
  exact lw_X4_copyFrom_16 (l := l) (p := p) (e := e) k nn k2 nn2 hik hik2 hz C0 _ r3 n_ _ _ _ _ _ hv G (lv_sub hl [2, 3, 1, 0] rfl)
abbrev rm_X5_copyFrom : Room := ({ frames := 2, cells := 0, slots := 0, locals := 36 } : Room)
theorem hd_X5_copyFrom : yX5_copyFrom.cls = RX5 ∧ yX5_copyFrom.cls ≠ "java/lang/invoke/MethodHandle" ∧ yX5_copyFrom.cls ≠ "java/lang/invoke/VarHandle" ∧ (parseMethodDescriptor yX5_copyFrom.desc).map (fun d => d.parameters.length) = some 1 := ⟨rfl, by decide +kernel, by decide +kernel, by decide +kernel⟩
set_option maxHeartbeats 4000000 in
set_option maxRecDepth 100000 in
theorem c_X5_copyFrom (l : Launch) (w : GW) (σ : St) (sz : Nat) (b : Nat) (b2 : Nat) (hib : isSt b) (hib2 : isSt b2) (hp : pre_X5_copyFrom b b2 σ) : Met l yX5_copyFrom (Cond.code yX5_copyFrom cX5_copyFrom 2 none :: wsL_law) rm_X5_copyFrom (gPc w gSL σ sz [.ref (gad w b), .ref (gad w b2)]) (gQv w gSL sz (post_X5_copyFrom b b2 σ)) 0 0 (gA w gSL.length sz) := by
  have hv : V_X5_copyFrom b b2 σ (post_X5_copyFrom b b2 σ) := v_X5_copyFrom b b2 hib hib2 σ hp
  refine g_met (by decide) [.ref (gad w b), .ref (gad w b2)] (Nat.le_of_ble_eq_true rfl) ?_
  intro p e s m below meth c ls hz C0 hl G
  obtain ⟨hx, hb, hr, hml, hown, hts, hlk, hNw, hA⟩ := id C0
  have hown : s.vm.findClass RX5 = some m.cls := hown
  have hl : lv_has ls 2 [(0, .ref (gad w b)), (1, .ref (gad w b2))] := hl
  refine lv_aload_n hx hb dX5_copyFrom_0 rfl (lv_at hl 0 rfl) ?_
  refine lv_aload_n hx hb dX5_copyFrom_1 rfl (lv_at hl 1 rfl) ?_
  refine g_getI hx hb hts hown 4 inlX5 G hib2.1 rfl (by decide) rfl wm_44 dX5_copyFrom_2 ?_
  refine g_putI hx hb hts hown 4 inlX5 tyX5 tyX5_ok nmX5 G hib.1 rfl (by decide) rfl wm_44 rfl rfl rfl dX5_copyFrom_5 (fun s1 es1 H locs G => ?_)
  have hv := hv s1 es1
  refine lv_aload_n hx hb dX5_copyFrom_8 rfl (lv_at hl 0 rfl) ?_
  refine g_getR hx hb hts hown 0 (b+1) inlX5 G hib.1 rfl (by decide) rfl wm_40 dX5_copyFrom_9 ?_
  refine lv_aload_n hx hb dX5_copyFrom_12 rfl (lv_at hl 1 rfl) ?_
  refine g_getR hx hb hts hown 0 (b2+1) inlX5 G hib2.1 rfl (by decide) rfl wm_40 dX5_copyFrom_13 ?_
  obtain ⟨p2, hv⟩ := hv
  refine g_callVv (rest := []) hx hb hml hts hown hNw hA G [.ref (gad w (b2+1))] (c_X4_copyFrom l w s1 _ (b+1) 100 (b2+1) 100 hib.2.1 hib2.2.1 p2) hib.2.1.1 rfl wm_161 wm_162 wm_163 wm_22 wm_164 hd_X4_copyFrom ⟨rfl, rfl, Nat.le_of_ble_eq_true rfl, Nat.le_of_ble_eq_true rfl⟩ rfl hl.1 (Nat.le_of_ble_eq_true rfl) rfl dX5_copyFrom_16 ⟨Nat.zero_le _, Nat.zero_le _⟩ (fun s3 H locs h4 G => ?_)
  have hv := hv s3 h4
  refine lv_aload_n hx hb dX5_copyFrom_19 rfl (lv_at hl 0 rfl) ?_
  refine g_getR hx hb hts hown 1 (b+3) inlX5 G hib.1 rfl (by decide) rfl wm_41 dX5_copyFrom_20 ?_
  refine lv_aload_n hx hb dX5_copyFrom_23 rfl (lv_at hl 1 rfl) ?_
  refine g_getR hx hb hts hown 1 (b2+3) inlX5 G hib2.1 rfl (by decide) rfl wm_41 dX5_copyFrom_24 ?_
  obtain ⟨p5, hv⟩ := hv
  refine g_callVv (rest := []) hx hb hml hts hown hNw hA G [.ref (gad w (b2+3))] (c_X4_copyFrom l w s3 _ (b+3) 6 (b2+3) 6 hib.2.2.1 hib2.2.2.1 p5) hib.2.2.1.1 rfl wm_161 wm_162 wm_163 wm_22 wm_164 hd_X4_copyFrom ⟨rfl, rfl, Nat.le_of_ble_eq_true rfl, Nat.le_of_ble_eq_true rfl⟩ rfl hl.1 (Nat.le_of_ble_eq_true rfl) rfl dX5_copyFrom_27 ⟨Nat.zero_le _, Nat.zero_le _⟩ (fun s6 H locs h7 G => ?_)
  have hv := hv s6 h7
  refine lv_aload_n hx hb dX5_copyFrom_30 rfl (lv_at hl 0 rfl) ?_
  refine g_getR hx hb hts hown 2 (b+5) inlX5 G hib.1 rfl (by decide) rfl wm_42 dX5_copyFrom_31 ?_
  refine lv_aload_n hx hb dX5_copyFrom_34 rfl (lv_at hl 1 rfl) ?_
  refine g_getR hx hb hts hown 2 (b2+5) inlX5 G hib2.1 rfl (by decide) rfl wm_42 dX5_copyFrom_35 ?_
  obtain ⟨p8, hv⟩ := hv
  refine g_callVv (rest := []) hx hb hml hts hown hNw hA G [.ref (gad w (b2+5))] (c_X4_copyFrom l w s6 _ (b+5) 48 (b2+5) 48 hib.2.2.2.1 hib2.2.2.2.1 p8) hib.2.2.2.1.1 rfl wm_161 wm_162 wm_163 wm_22 wm_164 hd_X4_copyFrom ⟨rfl, rfl, Nat.le_of_ble_eq_true rfl, Nat.le_of_ble_eq_true rfl⟩ rfl hl.1 (Nat.le_of_ble_eq_true rfl) rfl dX5_copyFrom_38 ⟨Nat.zero_le _, Nat.zero_le _⟩ (fun s9 H locs h10 G => ?_)
  have hv := hv s9 h10
  refine lv_aload_n hx hb dX5_copyFrom_41 rfl (lv_at hl 0 rfl) ?_
  refine g_getR hx hb hts hown 3 (b+7) inlX5 G hib.1 rfl (by decide) rfl wm_43 dX5_copyFrom_42 ?_
  refine lv_aload_n hx hb dX5_copyFrom_45 rfl (lv_at hl 1 rfl) ?_
  refine g_getR hx hb hts hown 3 (b2+7) inlX5 G hib2.1 rfl (by decide) rfl wm_43 dX5_copyFrom_46 ?_
  obtain ⟨p11, hv⟩ := hv
  refine g_callVv (rest := []) hx hb hml hts hown hNw hA G [.ref (gad w (b2+7))] (c_X4_copyFrom l w s9 _ (b+7) 6 (b2+7) 6 hib.2.2.2.2 hib2.2.2.2.2 p11) hib.2.2.2.2.1 rfl wm_161 wm_162 wm_163 wm_22 wm_164 hd_X4_copyFrom ⟨rfl, rfl, Nat.le_of_ble_eq_true rfl, Nat.le_of_ble_eq_true rfl⟩ rfl hl.1 (Nat.le_of_ble_eq_true rfl) rfl dX5_copyFrom_49 ⟨Nat.zero_le _, Nat.zero_le _⟩ (fun s12 H locs h13 G => ?_)
  have hv := hv s12 h13
  exact g_vret hx hb hr hlk hz G hv dX5_copyFrom_52
abbrev rm_X1_save : Room := ({ frames := 3, cells := 0, slots := 0, locals := 57 } : Room)
theorem hd_X1_save : yX1_save.cls = RX1 ∧ yX1_save.cls ≠ "java/lang/invoke/MethodHandle" ∧ yX1_save.cls ≠ "java/lang/invoke/VarHandle" ∧ (parseMethodDescriptor yX1_save.desc).map (fun d => d.parameters.length) = some 1 := ⟨rfl, by decide +kernel, by decide +kernel, by decide +kernel⟩
set_option maxHeartbeats 4000000 in
set_option maxRecDepth 100000 in
theorem c_X1_save (l : Launch) (w : GW) (σ : St) (sz : Nat) (hp : pre_X1_save σ) : Met l yX1_save (Cond.code yX1_save cX1_save 2 none :: wsL_law) rm_X1_save (gPc w gSL σ sz [.ref (gad w 10), .ref (gad w 1)]) (gQv w gSL sz (post_X1_save σ)) 0 0 (gA w gSL.length sz) := by
  have hv : V_X1_save σ (post_X1_save σ) := v_X1_save σ hp
  refine g_met (by decide) [.ref (gad w 10), .ref (gad w 1)] (Nat.le_of_ble_eq_true rfl) ?_
  intro p e s m below meth c ls hz C0 hl G
  obtain ⟨hx, hb, hr, hml, hown, hts, hlk, hNw, hA⟩ := id C0
  have hown : s.vm.findClass RX1 = some m.cls := hown
  have hl : lv_has ls 2 [(0, .ref (gad w 10)), (1, .ref (gad w 1))] := hl
  refine lv_aload_n hx hb dX1_save_0 rfl (lv_at hl 0 rfl) ?_
  refine lv_aload_n hx hb dX1_save_1 rfl (lv_at hl 0 rfl) ?_
  refine g_getI hx hb hts hown 1 inlX1 G sh_10 rfl (by decide) rfl wm_60 dX1_save_2 ?_
  obtain ⟨p1, hv⟩ := hv
  refine g_callVr (rest := []) hx hb hml hts hown hNw hA G [.int (iz (σ 10 1))] (c_X1_slotAt l w σ _ (σ 10 1) p1) sh_10 rfl wm_153 wm_154 wm_155 wm_18 wm_156 hd_X1_slotAt ⟨rfl, rfl, Nat.le_of_ble_eq_true rfl, Nat.le_of_ble_eq_true rfl⟩ rfl hl.1 (Nat.le_of_ble_eq_true rfl) rfl dX1_save_5 ⟨Nat.zero_le _, Nat.zero_le _⟩ (fun q4 s2 H locs h3 G => ?_)
  obtain ⟨eq4, es2⟩ := h3
  rw [es2] at G
  obtain ⟨hiq4, hv⟩ := hv q4 eq4
  refine lv_aload_n hx hb dX1_save_8 rfl (lv_at hl 1 rfl) ?_
  obtain ⟨p5, hv⟩ := hv
  refine g_callVv (rest := []) hx hb hml hts hown hNw hA G [.ref (gad w 1)] (c_X5_copyFrom l w σ _ q4 1 hiq4 st_1 p5) hiq4.1 rfl wm_157 wm_158 wm_159 wm_14 wm_160 hd_X5_copyFrom ⟨rfl, rfl, Nat.le_of_ble_eq_true rfl, Nat.le_of_ble_eq_true rfl⟩ rfl hl.1 (Nat.le_of_ble_eq_true rfl) rfl dX1_save_9 ⟨Nat.zero_le _, Nat.zero_le _⟩ (fun s6 H locs h7 G => ?_)
  have hv := hv s6 h7
  refine lv_aload_n hx hb dX1_save_12 rfl (lv_at hl 0 rfl) ?_
  refine lv_aload_n hx hb dX1_save_13 rfl (lv_at hl 0 rfl) ?_
  refine g_getI hx hb hts hown 1 inlX1 G sh_10 rfl (by decide) rfl wm_60 dX1_save_14 ?_
  refine lv_iconst (v := iz 1) hx hb dX1_save_17 rfl ?_
  refine g_iadd hx hb dX1_save_18 ?_
  refine lv_iconst (v := iz 4) hx hb dX1_save_19 rfl ?_
  obtain ⟨i8, hv⟩ := hv
  refine g_icmp_ge (tgt := 32) hx hb i8 ⟨by decide, by decide⟩ dX1_save_20 (by decide) (fun c9 => ?_) (fun c9 => ?_)
  · have hv := hv.1 c9
    refine lv_iconst (v := iz 0) hx hb dX1_save_32 rfl ?_
    refine g_putI hx hb hts hown 1 inlX1 tyX1 tyX1_ok nmX1 G sh_10 rfl (by decide) rfl wm_60 rfl rfl rfl dX1_save_33 (fun s10 es10 H locs G => ?_)
    have hv := hv s10 es10
    refine lv_aload_n hx hb dX1_save_36 rfl (lv_at hl 0 rfl) ?_
    refine lv_aload_n hx hb dX1_save_37 rfl (lv_at hl 0 rfl) ?_
    refine g_getI hx hb hts hown 2 inlX1 G sh_10 rfl (by decide) rfl wm_61 dX1_save_38 ?_
    refine lv_iconst (v := iz 1) hx hb dX1_save_41 rfl ?_
    refine g_iadd hx hb dX1_save_42 ?_
    refine lv_iconst (v := iz 4) hx hb dX1_save_43 rfl ?_
    obtain ⟨i11, hv⟩ := hv
    refine g_min hx hb (hml.trans hl.1.symm) hts hown wm_149 wm_150 wm_151 wm_152 (Nat.le_of_ble_eq_true rfl) (Nat.le_of_ble_eq_true rfl) (Nat.zero_le _) (Nat.zero_le _) i11 ⟨by decide, by decide⟩ dX1_save_44 (fun r12 er12 => ?_)
    have hv := hv r12 er12
    refine g_putI hx hb hts hown 2 inlX1 tyX1 tyX1_ok nmX1 G sh_10 rfl (by decide) rfl wm_61 rfl rfl rfl dX1_save_47 (fun s13 es13 H locs G => ?_)
    have hv := hv s13 es13
    exact g_vret hx hb hr hlk hz G hv dX1_save_50
  · have hv := hv.2 c9
    refine lv_aload_n hx hb dX1_save_23 rfl (lv_at hl 0 rfl) ?_
    refine g_getI hx hb hts hown 1 inlX1 G sh_10 rfl (by decide) rfl wm_60 dX1_save_24 ?_
    refine lv_iconst (v := iz 1) hx hb dX1_save_27 rfl ?_
    refine g_iadd hx hb dX1_save_28 ?_
    refine lv_goto (tgt := 33) hx hb dX1_save_29 (by decide) ?_
    refine g_putI hx hb hts hown 1 inlX1 tyX1 tyX1_ok nmX1 G sh_10 rfl (by decide) rfl wm_60 rfl rfl rfl dX1_save_33 (fun s14 es14 H locs G => ?_)
    have hv := hv s14 es14
    refine lv_aload_n hx hb dX1_save_36 rfl (lv_at hl 0 rfl) ?_
    refine lv_aload_n hx hb dX1_save_37 rfl (lv_at hl 0 rfl) ?_
    refine g_getI hx hb hts hown 2 inlX1 G sh_10 rfl (by decide) rfl wm_61 dX1_save_38 ?_
    refine lv_iconst (v := iz 1) hx hb dX1_save_41 rfl ?_
    refine g_iadd hx hb dX1_save_42 ?_
    refine lv_iconst (v := iz 4) hx hb dX1_save_43 rfl ?_
    obtain ⟨i15, hv⟩ := hv
    refine g_min hx hb (hml.trans hl.1.symm) hts hown wm_149 wm_150 wm_151 wm_152 (Nat.le_of_ble_eq_true rfl) (Nat.le_of_ble_eq_true rfl) (Nat.zero_le _) (Nat.zero_le _) i15 ⟨by decide, by decide⟩ dX1_save_44 (fun r16 er16 => ?_)
    have hv := hv r16 er16
    refine g_putI hx hb hts hown 2 inlX1 tyX1 tyX1_ok nmX1 G sh_10 rfl (by decide) rfl wm_61 rfl rfl rfl dX1_save_47 (fun s17 es17 H locs G => ?_)
    have hv := hv s17 es17
    exact g_vret hx hb hr hlk hz G hv dX1_save_50
abbrev rm_X6_prepareChange : Room := ({ frames := 4, cells := 0, slots := 0, locals := 78 } : Room)
theorem hd_X6_prepareChange : yX6_prepareChange.cls = RX6 ∧ yX6_prepareChange.cls ≠ "java/lang/invoke/MethodHandle" ∧ yX6_prepareChange.cls ≠ "java/lang/invoke/VarHandle" ∧ (parseMethodDescriptor yX6_prepareChange.desc).map (fun d => d.parameters.length) = some 0 := ⟨rfl, by decide +kernel, by decide +kernel, by decide +kernel⟩
set_option maxHeartbeats 4000000 in
set_option maxRecDepth 100000 in
theorem c_X6_prepareChange (l : Launch) (w : GW) (σ : St) (sz : Nat) (hp : pre_X6_prepareChange σ) : Met l yX6_prepareChange (Cond.code yX6_prepareChange cX6_prepareChange 1 none :: wsL_law) rm_X6_prepareChange (gPc w gSL σ sz [.ref (gad w 0)]) (gQv w gSL sz (post_X6_prepareChange σ)) 0 0 (gA w gSL.length sz) := by
  have hv : V_X6_prepareChange σ (post_X6_prepareChange σ) := v_X6_prepareChange σ hp
  refine g_met (by decide) [.ref (gad w 0)] (Nat.le_of_ble_eq_true rfl) ?_
  intro p e s m below meth c ls hz C0 hl G
  obtain ⟨hx, hb, hr, hml, hown, hts, hlk, hNw, hA⟩ := id C0
  have hown : s.vm.findClass RX6 = some m.cls := hown
  have hl : lv_has ls 1 [(0, .ref (gad w 0))] := hl
  refine lv_aload_n hx hb dX6_prepareChange_0 rfl (lv_at hl 0 rfl) ?_
  refine g_getR hx hb hts hown 1 10 inlX6 G sh_0 rfl (by decide) rfl wm_19 dX6_prepareChange_1 ?_
  refine lv_aload_n hx hb dX6_prepareChange_4 rfl (lv_at hl 0 rfl) ?_
  refine g_getR hx hb hts hown 0 1 inlX6 G sh_0 rfl (by decide) rfl wm_15 dX6_prepareChange_5 ?_
  obtain ⟨p1, hv⟩ := hv
  refine g_callVv (rest := []) hx hb hml hts hown hNw hA G [.ref (gad w 1)] (c_X1_save l w σ _ p1) sh_10 rfl wm_145 wm_146 wm_147 wm_18 wm_148 hd_X1_save ⟨rfl, rfl, Nat.le_of_ble_eq_true rfl, Nat.le_of_ble_eq_true rfl⟩ rfl hl.1 (Nat.le_of_ble_eq_true rfl) rfl dX6_prepareChange_8 ⟨Nat.zero_le _, Nat.zero_le _⟩ (fun s2 H locs h3 G => ?_)
  have hv := hv s2 h3
  refine lv_aload_n hx hb dX6_prepareChange_11 rfl (lv_at hl 0 rfl) ?_
  refine lv_iconst (v := iz 1) hx hb dX6_prepareChange_12 rfl ?_
  refine g_putI hx hb hts hown 7 inlX6 tyX6 tyX6_ok nmX6 G sh_0 rfl (by decide) rfl wm_34 rfl rfl rfl dX6_prepareChange_13 (fun s4 es4 H locs G => ?_)
  have hv := hv s4 es4
  exact g_vret hx hb hr hlk hz G hv dX6_prepareChange_16
abbrev rm_X5_insertByte : Room := ({ frames := 1, cells := 0, slots := 0, locals := 22 } : Room)
theorem hd_X5_insertByte : yX5_insertByte.cls = RX5 ∧ yX5_insertByte.cls ≠ "java/lang/invoke/MethodHandle" ∧ yX5_insertByte.cls ≠ "java/lang/invoke/VarHandle" ∧ (parseMethodDescriptor yX5_insertByte.desc).map (fun d => d.parameters.length) = some 2 := ⟨rfl, by decide +kernel, by decide +kernel, by decide +kernel⟩
set_option maxHeartbeats 4000000 in
set_option maxRecDepth 100000 in
theorem lw_X5_insertByte_5 {p : Program} {l : Launch} {e : Env} {s : State} {m : MethodId} {args : Array Value} {below : List Frame} {meth : Method} {c : Code} {w : GW} {sz : Nat} (hz : s.heap.size = sz) (C0 : gC p s m args meth c cX5_insertByte none 4 yX5_insertByte.cls (gA w gSL.length sz)) (Q : St → Prop) (y1 y2 : Int) : ∀ (n : Nat) (y3 : Int) (σ : St) (H : Heap) (locs : List Loc) (ls : Array Slot), L_X5_insertByte_5 Q y1 y2 n y3 σ → gS w gSL σ (gA w gSL.length sz) s s.heap H locs → lv_has ls 4 [(0, .ref (gad w 1)), (1, .int (iz y1)), (2, .int (iz y2)), (3, .int (iz y3))] → W p l e rm_X5_insertByte s m args below meth c H locs 0 0 (MQ below (gQv w gSL sz Q) args s 0 0 (gA w gSL.length sz)) (F0 m 5 ls []) := by
  obtain ⟨hx, hb, hr, hml, hown, hts, hlk, hNw, hA⟩ := id C0
  have hown : s.vm.findClass RX5 = some m.cls := hown
  intro n
  induction n with
  | zero => intro y3 σ H locs ls hv; exact hv.elim
  | succ n ih =>
    intro y3 σ H locs ls hv G hl
    refine lv_iload_n hx hb dX5_insertByte_5 rfl (lv_at hl 3 rfl) ?_
    refine lv_iload_n hx hb dX5_insertByte_6 rfl (lv_at hl 1 rfl) ?_
    obtain ⟨i1, hv⟩ := hv
    obtain ⟨i2, hv⟩ := hv
    refine g_icmp_le (tgt := 34) hx hb i1 i2 dX5_insertByte_7 (by decide) (fun c3 => ?_) (fun c3 => ?_)
    · have hv := hv.1 c3
      refine lv_aload_n hx hb dX5_insertByte_34 rfl (lv_at hl 0 rfl) ?_
      refine g_getR hx hb hts hown 0 2 inlX5 G sh_1 rfl (by decide) rfl wm_40 dX5_insertByte_35 ?_
      refine lv_iload_n hx hb dX5_insertByte_38 rfl (lv_at hl 1 rfl) ?_
      refine lv_iload_n hx hb dX5_insertByte_39 rfl (lv_at hl 2 rfl) ?_
      obtain ⟨p4, hv⟩ := hv
      refine g_callVv (rest := []) hx hb hml hts hown hNw hA G [.int (iz y1), .int (iz y2)] (c_X4_set l w σ _ 2 100 ⟨sh_2, sh_3⟩ y1 y2 p4) sh_2 rfl wm_171 wm_138 wm_139 wm_22 wm_140 hd_X4_set ⟨rfl, rfl, Nat.le_of_ble_eq_true rfl, Nat.le_of_ble_eq_true rfl⟩ rfl hl.1 (Nat.le_of_ble_eq_true rfl) rfl dX5_insertByte_40 ⟨Nat.zero_le _, Nat.zero_le _⟩ (fun s5 H locs h6 G => ?_)
      have hv := hv s5 h6
      refine lv_aload_n hx hb dX5_insertByte_43 rfl (lv_at hl 0 rfl) ?_
      refine lv_dup hx hb dX5_insertByte_44 rfl ?_
      refine g_getI hx hb hts hown 4 inlX5 G sh_1 rfl (by decide) rfl wm_44 dX5_insertByte_45 ?_
      refine lv_iconst (v := iz 1) hx hb dX5_insertByte_48 rfl ?_
      refine g_iadd hx hb dX5_insertByte_49 ?_
      refine g_putI hx hb hts hown 4 inlX5 tyX5 tyX5_ok nmX5 G sh_1 rfl (by decide) rfl wm_44 rfl rfl rfl dX5_insertByte_50 (fun s7 es7 H locs G => ?_)
      have hv := hv s7 es7
      exact g_vret hx hb hr hlk hz G hv dX5_insertByte_53
    · have hv := hv.2 c3
      refine lv_aload_n hx hb dX5_insertByte_10 rfl (lv_at hl 0 rfl) ?_
      refine g_getR hx hb hts hown 0 2 inlX5 G sh_1 rfl (by decide) rfl wm_40 dX5_insertByte_11 ?_
      refine lv_iload_n hx hb dX5_insertByte_14 rfl (lv_at hl 3 rfl) ?_
      refine lv_aload_n hx hb dX5_insertByte_15 rfl (lv_at hl 0 rfl) ?_
      refine g_getR hx hb hts hown 0 2 inlX5 G sh_1 rfl (by decide) rfl wm_40 dX5_insertByte_16 ?_
      refine lv_iload_n hx hb dX5_insertByte_19 rfl (lv_at hl 3 rfl) ?_
      refine lv_iconst (v := iz 1) hx hb dX5_insertByte_20 rfl ?_
      refine g_isub hx hb dX5_insertByte_21 ?_
      obtain ⟨p8, hv⟩ := hv
      refine g_callVi (rest := [.int (iz y3), .ref (gad w 2)]) hx hb hml hts hown hNw hA G [.int (iz (y3 - 1))] (c_X4_get l w σ _ 2 100 ⟨sh_2, sh_3⟩ (y3 - 1) p8) sh_2 rfl wm_170 wm_134 wm_135 wm_22 wm_136 hd_X4_get ⟨rfl, rfl, Nat.le_of_ble_eq_true rfl, Nat.le_of_ble_eq_true rfl⟩ rfl hl.1 (Nat.le_of_ble_eq_true rfl) rfl dX5_insertByte_22 ⟨Nat.zero_le _, Nat.zero_le _⟩ (fun r11 s9 H locs h10 G => ?_)
      obtain ⟨er11, es9⟩ := h10
      rw [es9] at G
      have hv := hv r11 er11
      obtain ⟨p12, hv⟩ := hv
      refine g_callVv (rest := []) hx hb hml hts hown hNw hA G [.int (iz y3), .int (iz r11)] (c_X4_set l w σ _ 2 100 ⟨sh_2, sh_3⟩ y3 r11 p12) sh_2 rfl wm_171 wm_138 wm_139 wm_22 wm_140 hd_X4_set ⟨rfl, rfl, Nat.le_of_ble_eq_true rfl, Nat.le_of_ble_eq_true rfl⟩ rfl hl.1 (Nat.le_of_ble_eq_true rfl) rfl dX5_insertByte_25 ⟨Nat.zero_le _, Nat.zero_le _⟩ (fun s13 H locs h14 G => ?_)
      have hv := hv s13 h14
      refine g_iinc (k := 3) (x := y3) (n := (-1)) (lv' := [(3, .int (iz (y3 + (-1)))), (0, .ref (gad w 1)), (1, .int (iz y1)), (2, .int (iz y2))]) hx hb dX5_insertByte_28 hl rfl (by decide) rfl (fun ls hl => ?_)
      refine lv_goto (tgt := 5) hx hb dX5_insertByte_31 (by decide) ?_
      exact ih _ _ _ _ _ hv G (lv_sub hl [1, 2, 3, 0] rfl)
set_option maxHeartbeats 4000000 in
set_option maxRecDepth 100000 in
theorem c_X5_insertByte (l : Launch) (w : GW) (σ : St) (sz : Nat) (x1 x2 : Int) (hp : pre_X5_insertByte x1 x2 σ) : Met l yX5_insertByte (Cond.code yX5_insertByte cX5_insertByte 4 none :: wsL_law) rm_X5_insertByte (gPc w gSL σ sz [.ref (gad w 1), .int (iz x1), .int (iz x2)]) (gQv w gSL sz (post_X5_insertByte x1 x2 σ)) 0 0 (gA w gSL.length sz) := by
  have hv : V_X5_insertByte x1 x2 σ (post_X5_insertByte x1 x2 σ) := v_X5_insertByte x1 x2 σ hp
  refine g_met (by decide) [.ref (gad w 1), .int (iz x1), .int (iz x2)] (Nat.le_of_ble_eq_true rfl) ?_
  intro p e s m below meth c ls hz C0 hl G
  obtain ⟨hx, hb, hr, hml, hown, hts, hlk, hNw, hA⟩ := id C0
  have hown : s.vm.findClass RX5 = some m.cls := hown
  have hl : lv_has ls 4 [(0, .ref (gad w 1)), (1, .int (iz x1)), (2, .int (iz x2))] := hl
  refine lv_aload_n hx hb dX5_insertByte_0 rfl (lv_at hl 0 rfl) ?_
  refine g_getI hx hb hts hown 4 inlX5 G sh_1 rfl (by decide) rfl wm_44 dX5_insertByte_1 ?_
  refine lv_istore_n (lv' := [(3, .int (iz (σ 1 4))), (0, .ref (gad w 1)), (1, .int (iz x1)), (2, .int (iz x2))]) hx hb dX5_insertByte_4 rfl hl (by decide) rfl (fun ls hl => ?_)
  obtain ⟨n_, hv⟩ := hv
  exact lw_X5_insertByte_5 (l := l) (p := p) (e := e) hz C0 _ x1 x2 n_ _ _ _ _ _ hv G (lv_sub hl [1, 2, 3, 0] rfl)
abbrev rm_X6_insert : Room := ({ frames := 5, cells := 0, slots := 0, locals := 98 } : Room)
theorem hd_X6_insert : yX6_insert.cls = RX6 ∧ yX6_insert.cls ≠ "java/lang/invoke/MethodHandle" ∧ yX6_insert.cls ≠ "java/lang/invoke/VarHandle" ∧ (parseMethodDescriptor yX6_insert.desc).map (fun d => d.parameters.length) = some 2 := ⟨rfl, by decide +kernel, by decide +kernel, by decide +kernel⟩
set_option maxHeartbeats 4000000 in
set_option maxRecDepth 100000 in
theorem c_X6_insert (l : Launch) (w : GW) (σ : St) (sz : Nat) (x1 x2 : Int) (hp : pre_X6_insert x1 x2 σ) : Met l yX6_insert (Cond.code yX6_insert cX6_insert 3 (some .int) :: wsL_law) rm_X6_insert (gPc w gSL σ sz [.ref (gad w 0), .int (iz x1), .int (iz x2)]) (gQi w gSL sz (post_X6_insert x1 x2 σ)) 0 0 (gA w gSL.length sz) := by
  have hv : V_X6_insert x1 x2 σ (post_X6_insert x1 x2 σ) := v_X6_insert x1 x2 σ hp
  refine g_met (by decide) [.ref (gad w 0), .int (iz x1), .int (iz x2)] (Nat.le_of_ble_eq_true rfl) ?_
  intro p e s m below meth c ls hz C0 hl G
  obtain ⟨hx, hb, hr, hml, hown, hts, hlk, hNw, hA⟩ := id C0
  have hown : s.vm.findClass RX6 = some m.cls := hown
  have hl : lv_has ls 3 [(0, .ref (gad w 0)), (1, .int (iz x1)), (2, .int (iz x2))] := hl
  refine lv_iload_n hx hb dX6_insert_0 rfl (lv_at hl 1 rfl) ?_
  obtain ⟨i1, hv⟩ := hv
  refine g_if_lt (tgt := 22) hx hb i1 dX6_insert_1 (by decide) (fun c2 => ?_) (fun c2 => ?_)
  · have hv := hv.1 c2
    refine lv_aload_n hx hb dX6_insert_22 rfl (lv_at hl 0 rfl) ?_
    refine lv_bipush (v := iz (-2)) hx hb dX6_insert_23 (by decide +kernel) ?_
    obtain ⟨p3, hv⟩ := hv
    refine g_callVi (rest := []) hx hb hml hts hown hNw hA G [.int (iz (-2))] (c_X6_fail l w σ _ (-2) p3) sh_0 rfl wm_129 wm_130 wm_131 wm_2 wm_132 hd_X6_fail ⟨rfl, rfl, Nat.le_of_ble_eq_true rfl, Nat.le_of_ble_eq_true rfl⟩ rfl hl.1 (Nat.le_of_ble_eq_true rfl) rfl dX6_insert_25 ⟨Nat.zero_le _, Nat.zero_le _⟩ (fun r6 s4 H locs h5 G => ?_)
    have hv := hv r6 h5.1 s4 h5.2
    exact g_iret hx hb hr hlk hz G hv dX6_insert_28
  · have hv := hv.2 c2
    refine lv_iload_n hx hb dX6_insert_4 rfl (lv_at hl 1 rfl) ?_
    refine lv_aload_n hx hb dX6_insert_5 rfl (lv_at hl 0 rfl) ?_
    refine g_getR hx hb hts hown 0 1 inlX6 G sh_0 rfl (by decide) rfl wm_15 dX6_insert_6 ?_
    obtain ⟨p7, hv⟩ := hv
    refine g_callVi (rest := [.int (iz x1)]) hx hb hml hts hown hNw hA G [] (c_X5_textSize l w σ _ p7) sh_1 rfl wm_122 wm_123 wm_124 wm_14 wm_125 hd_X5_textSize ⟨rfl, rfl, Nat.le_of_ble_eq_true rfl, Nat.le_of_ble_eq_true rfl⟩ rfl hl.1 (Nat.le_of_ble_eq_true rfl) rfl dX6_insert_9 ⟨Nat.zero_le _, Nat.zero_le _⟩ (fun r10 s8 H locs h9 G => ?_)
    obtain ⟨er10, es8⟩ := h9
    rw [es8] at G
    have hv := hv r10 er10
    obtain ⟨i11, hv⟩ := hv
    refine g_icmp_gt (tgt := 22) hx hb i1 i11 dX6_insert_12 (by decide) (fun c12 => ?_) (fun c12 => ?_)
    · have hv := hv.1 c12
      refine lv_aload_n hx hb dX6_insert_22 rfl (lv_at hl 0 rfl) ?_
      refine lv_bipush (v := iz (-2)) hx hb dX6_insert_23 (by decide +kernel) ?_
      obtain ⟨p13, hv⟩ := hv
      refine g_callVi (rest := []) hx hb hml hts hown hNw hA G [.int (iz (-2))] (c_X6_fail l w σ _ (-2) p13) sh_0 rfl wm_129 wm_130 wm_131 wm_2 wm_132 hd_X6_fail ⟨rfl, rfl, Nat.le_of_ble_eq_true rfl, Nat.le_of_ble_eq_true rfl⟩ rfl hl.1 (Nat.le_of_ble_eq_true rfl) rfl dX6_insert_25 ⟨Nat.zero_le _, Nat.zero_le _⟩ (fun r16 s14 H locs h15 G => ?_)
      have hv := hv r16 h15.1 s14 h15.2
      exact g_iret hx hb hr hlk hz G hv dX6_insert_28
    · have hv := hv.2 c12
      refine lv_iload_n hx hb dX6_insert_15 rfl (lv_at hl 2 rfl) ?_
      obtain ⟨p17, hv⟩ := hv
      refine g_callSi (rest := []) hx hb hml hts hown hNw hA G [.int (iz x2)] (c_X6_isByte l w σ _ x2 p17) wm_126 wm_127 wm_2 wm_128 hd_X6_isByte ⟨rfl, rfl, Nat.le_of_ble_eq_true rfl, Nat.le_of_ble_eq_true rfl⟩ rfl hl.1 (Nat.le_of_ble_eq_true rfl) rfl dX6_insert_16 ⟨Nat.zero_le _, Nat.zero_le _⟩ (fun r20 s18 H locs h19 G => ?_)
      obtain ⟨er20, es18⟩ := h19
      rw [es18] at G
      have hv := hv r20 er20
      obtain ⟨i21, hv⟩ := hv
      refine g_if_ne (tgt := 29) hx hb i21 dX6_insert_19 (by decide) (fun c22 => ?_) (fun c22 => ?_)
      · have hv := hv.1 c22
        refine lv_aload_n hx hb dX6_insert_29 rfl (lv_at hl 0 rfl) ?_
        refine g_getR hx hb hts hown 0 1 inlX6 G sh_0 rfl (by decide) rfl wm_15 dX6_insert_30 ?_
        obtain ⟨p23, hv⟩ := hv
        refine g_callVi (rest := []) hx hb hml hts hown hNw hA G [] (c_X5_textSize l w σ _ p23) sh_1 rfl wm_122 wm_123 wm_124 wm_14 wm_125 hd_X5_textSize ⟨rfl, rfl, Nat.le_of_ble_eq_true rfl, Nat.le_of_ble_eq_true rfl⟩ rfl hl.1 (Nat.le_of_ble_eq_true rfl) rfl dX6_insert_33 ⟨Nat.zero_le _, Nat.zero_le _⟩ (fun r26 s24 H locs h25 G => ?_)
        obtain ⟨er26, es24⟩ := h25
        rw [es24] at G
        have hv := hv r26 er26
        refine lv_bipush (v := iz 100) hx hb dX6_insert_36 (by decide +kernel) ?_
        obtain ⟨i27, hv⟩ := hv
        refine g_icmp_lt (tgt := 48) hx hb i27 ⟨by decide, by decide⟩ dX6_insert_38 (by decide) (fun c28 => ?_) (fun c28 => ?_)
        · have hv := hv.1 c28
          refine lv_aload_n hx hb dX6_insert_48 rfl (lv_at hl 0 rfl) ?_
          obtain ⟨p29, hv⟩ := hv
          refine g_callVv (rest := []) hx hb hml hts hown hNw hA G [] (c_X6_prepareChange l w σ _ p29) sh_0 rfl wm_141 wm_142 wm_143 wm_2 wm_144 hd_X6_prepareChange ⟨rfl, rfl, Nat.le_of_ble_eq_true rfl, Nat.le_of_ble_eq_true rfl⟩ rfl hl.1 (Nat.le_of_ble_eq_true rfl) rfl dX6_insert_49 ⟨Nat.zero_le _, Nat.zero_le _⟩ (fun s30 H locs h31 G => ?_)
          have hv := hv s30 h31
          refine lv_aload_n hx hb dX6_insert_52 rfl (lv_at hl 0 rfl) ?_
          refine g_getR hx hb hts hown 0 1 inlX6 G sh_0 rfl (by decide) rfl wm_15 dX6_insert_53 ?_
          refine lv_iload_n hx hb dX6_insert_56 rfl (lv_at hl 1 rfl) ?_
          refine lv_iload_n hx hb dX6_insert_57 rfl (lv_at hl 2 rfl) ?_
          obtain ⟨p32, hv⟩ := hv
          refine g_callVv (rest := []) hx hb hml hts hown hNw hA G [.int (iz x1), .int (iz x2)] (c_X5_insertByte l w s30 _ x1 x2 p32) sh_1 rfl wm_166 wm_167 wm_168 wm_14 wm_169 hd_X5_insertByte ⟨rfl, rfl, Nat.le_of_ble_eq_true rfl, Nat.le_of_ble_eq_true rfl⟩ rfl hl.1 (Nat.le_of_ble_eq_true rfl) rfl dX6_insert_58 ⟨Nat.zero_le _, Nat.zero_le _⟩ (fun s33 H locs h34 G => ?_)
          have hv := hv s33 h34
          refine lv_aload_n hx hb dX6_insert_61 rfl (lv_at hl 0 rfl) ?_
          refine g_getR hx hb hts hown 0 1 inlX6 G sh_0 rfl (by decide) rfl wm_15 dX6_insert_62 ?_
          obtain ⟨p35, hv⟩ := hv
          refine g_callVi (rest := []) hx hb hml hts hown hNw hA G [] (c_X5_textSize l w s33 _ p35) sh_1 rfl wm_122 wm_123 wm_124 wm_14 wm_125 hd_X5_textSize ⟨rfl, rfl, Nat.le_of_ble_eq_true rfl, Nat.le_of_ble_eq_true rfl⟩ rfl hl.1 (Nat.le_of_ble_eq_true rfl) rfl dX6_insert_65 ⟨Nat.zero_le _, Nat.zero_le _⟩ (fun r38 s36 H locs h37 G => ?_)
          obtain ⟨er38, es36⟩ := h37
          rw [es36] at G
          have hv := hv r38 er38
          exact g_iret hx hb hr hlk hz G hv dX6_insert_68
        · have hv := hv.2 c28
          refine lv_aload_n hx hb dX6_insert_41 rfl (lv_at hl 0 rfl) ?_
          refine lv_bipush (v := iz (-4)) hx hb dX6_insert_42 (by decide +kernel) ?_
          obtain ⟨p39, hv⟩ := hv
          refine g_callVi (rest := []) hx hb hml hts hown hNw hA G [.int (iz (-4))] (c_X6_fail l w σ _ (-4) p39) sh_0 rfl wm_129 wm_130 wm_131 wm_2 wm_132 hd_X6_fail ⟨rfl, rfl, Nat.le_of_ble_eq_true rfl, Nat.le_of_ble_eq_true rfl⟩ rfl hl.1 (Nat.le_of_ble_eq_true rfl) rfl dX6_insert_44 ⟨Nat.zero_le _, Nat.zero_le _⟩ (fun r42 s40 H locs h41 G => ?_)
          have hv := hv r42 h41.1 s40 h41.2
          exact g_iret hx hb hr hlk hz G hv dX6_insert_47
      · have hv := hv.2 c22
        refine lv_aload_n hx hb dX6_insert_22 rfl (lv_at hl 0 rfl) ?_
        refine lv_bipush (v := iz (-2)) hx hb dX6_insert_23 (by decide +kernel) ?_
        obtain ⟨p43, hv⟩ := hv
        refine g_callVi (rest := []) hx hb hml hts hown hNw hA G [.int (iz (-2))] (c_X6_fail l w σ _ (-2) p43) sh_0 rfl wm_129 wm_130 wm_131 wm_2 wm_132 hd_X6_fail ⟨rfl, rfl, Nat.le_of_ble_eq_true rfl, Nat.le_of_ble_eq_true rfl⟩ rfl hl.1 (Nat.le_of_ble_eq_true rfl) rfl dX6_insert_25 ⟨Nat.zero_le _, Nat.zero_le _⟩ (fun r46 s44 H locs h45 G => ?_)
        have hv := hv r46 h45.1 s44 h45.2
        exact g_iret hx hb hr hlk hz G hv dX6_insert_28
abbrev rm_X6_isInText : Room := ({ frames := 1, cells := 0, slots := 0, locals := 20 } : Room)
theorem hd_X6_isInText : yX6_isInText.cls = RX6 ∧ yX6_isInText.cls ≠ "java/lang/invoke/MethodHandle" ∧ yX6_isInText.cls ≠ "java/lang/invoke/VarHandle" ∧ (parseMethodDescriptor yX6_isInText.desc).map (fun d => d.parameters.length) = some 1 := ⟨rfl, by decide +kernel, by decide +kernel, by decide +kernel⟩
set_option maxHeartbeats 4000000 in
set_option maxRecDepth 100000 in
theorem c_X6_isInText (l : Launch) (w : GW) (σ : St) (sz : Nat) (x1 : Int) (hp : pre_X6_isInText x1 σ) : Met l yX6_isInText (Cond.code yX6_isInText cX6_isInText 2 (some .boolean) :: wsL_law) rm_X6_isInText (gPc w gSL σ sz [.ref (gad w 0), .int (iz x1)]) (gQi w gSL sz (post_X6_isInText x1 σ)) 0 0 (gA w gSL.length sz) := by
  have hv : V_X6_isInText x1 σ (post_X6_isInText x1 σ) := v_X6_isInText x1 σ hp
  refine g_met (by decide) [.ref (gad w 0), .int (iz x1)] (Nat.le_of_ble_eq_true rfl) ?_
  intro p e s m below meth c ls hz C0 hl G
  obtain ⟨hx, hb, hr, hml, hown, hts, hlk, hNw, hA⟩ := id C0
  have hown : s.vm.findClass RX6 = some m.cls := hown
  have hl : lv_has ls 2 [(0, .ref (gad w 0)), (1, .int (iz x1))] := hl
  refine lv_iload_n hx hb dX6_isInText_0 rfl (lv_at hl 1 rfl) ?_
  obtain ⟨i1, hv⟩ := hv
  refine g_if_lt (tgt := 19) hx hb i1 dX6_isInText_1 (by decide) (fun c2 => ?_) (fun c2 => ?_)
  · have hv := hv.1 c2
    refine lv_iconst (v := iz 0) hx hb dX6_isInText_19 rfl ?_
    exact g_zret hx hb hr hlk hz G (Or.inl rfl) hv dX6_isInText_20
  · have hv := hv.2 c2
    refine lv_iload_n hx hb dX6_isInText_4 rfl (lv_at hl 1 rfl) ?_
    refine lv_aload_n hx hb dX6_isInText_5 rfl (lv_at hl 0 rfl) ?_
    refine g_getR hx hb hts hown 0 1 inlX6 G sh_0 rfl (by decide) rfl wm_15 dX6_isInText_6 ?_
    obtain ⟨p3, hv⟩ := hv
    refine g_callVi (rest := [.int (iz x1)]) hx hb hml hts hown hNw hA G [] (c_X5_textSize l w σ _ p3) sh_1 rfl wm_122 wm_123 wm_124 wm_14 wm_125 hd_X5_textSize ⟨rfl, rfl, Nat.le_of_ble_eq_true rfl, Nat.le_of_ble_eq_true rfl⟩ rfl hl.1 (Nat.le_of_ble_eq_true rfl) rfl dX6_isInText_9 ⟨Nat.zero_le _, Nat.zero_le _⟩ (fun r6 s4 H locs h5 G => ?_)
    obtain ⟨er6, es4⟩ := h5
    rw [es4] at G
    have hv := hv r6 er6
    obtain ⟨i7, hv⟩ := hv
    refine g_icmp_ge (tgt := 19) hx hb i1 i7 dX6_isInText_12 (by decide) (fun c8 => ?_) (fun c8 => ?_)
    · have hv := hv.1 c8
      refine lv_iconst (v := iz 0) hx hb dX6_isInText_19 rfl ?_
      exact g_zret hx hb hr hlk hz G (Or.inl rfl) hv dX6_isInText_20
    · have hv := hv.2 c8
      refine lv_iconst (v := iz 1) hx hb dX6_isInText_15 rfl ?_
      refine lv_goto (tgt := 20) hx hb dX6_isInText_16 (by decide) ?_
      exact g_zret hx hb hr hlk hz G (Or.inr rfl) hv dX6_isInText_20
abbrev rm_X5_textAt : Room := ({ frames := 1, cells := 0, slots := 0, locals := 21 } : Room)
theorem hd_X5_textAt : yX5_textAt.cls = RX5 ∧ yX5_textAt.cls ≠ "java/lang/invoke/MethodHandle" ∧ yX5_textAt.cls ≠ "java/lang/invoke/VarHandle" ∧ (parseMethodDescriptor yX5_textAt.desc).map (fun d => d.parameters.length) = some 1 := ⟨rfl, by decide +kernel, by decide +kernel, by decide +kernel⟩
set_option maxHeartbeats 4000000 in
set_option maxRecDepth 100000 in
theorem c_X5_textAt (l : Launch) (w : GW) (σ : St) (sz : Nat) (x1 : Int) (hp : pre_X5_textAt x1 σ) : Met l yX5_textAt (Cond.code yX5_textAt cX5_textAt 2 (some .int) :: wsL_law) rm_X5_textAt (gPc w gSL σ sz [.ref (gad w 1), .int (iz x1)]) (gQi w gSL sz (post_X5_textAt x1 σ)) 0 0 (gA w gSL.length sz) := by
  have hv : V_X5_textAt x1 σ (post_X5_textAt x1 σ) := v_X5_textAt x1 σ hp
  refine g_met (by decide) [.ref (gad w 1), .int (iz x1)] (Nat.le_of_ble_eq_true rfl) ?_
  intro p e s m below meth c ls hz C0 hl G
  obtain ⟨hx, hb, hr, hml, hown, hts, hlk, hNw, hA⟩ := id C0
  have hown : s.vm.findClass RX5 = some m.cls := hown
  have hl : lv_has ls 2 [(0, .ref (gad w 1)), (1, .int (iz x1))] := hl
  refine lv_iload_n hx hb dX5_textAt_0 rfl (lv_at hl 1 rfl) ?_
  refine lv_aload_n hx hb dX5_textAt_1 rfl (lv_at hl 0 rfl) ?_
  refine g_getI hx hb hts hown 4 inlX5 G sh_1 rfl (by decide) rfl wm_44 dX5_textAt_2 ?_
  obtain ⟨i1, hv⟩ := hv
  obtain ⟨i2, hv⟩ := hv
  refine g_icmp_ge (tgt := 19) hx hb i1 i2 dX5_textAt_5 (by decide) (fun c3 => ?_) (fun c3 => ?_)
  · have hv := hv.1 c3
    refine lv_iconst (v := iz (-1)) hx hb dX5_textAt_19 rfl ?_
    exact g_iret hx hb hr hlk hz G hv dX5_textAt_20
  · have hv := hv.2 c3
    refine lv_aload_n hx hb dX5_textAt_8 rfl (lv_at hl 0 rfl) ?_
    refine g_getR hx hb hts hown 0 2 inlX5 G sh_1 rfl (by decide) rfl wm_40 dX5_textAt_9 ?_
    refine lv_iload_n hx hb dX5_textAt_12 rfl (lv_at hl 1 rfl) ?_
    obtain ⟨p4, hv⟩ := hv
    refine g_callVi (rest := []) hx hb hml hts hown hNw hA G [.int (iz x1)] (c_X4_get l w σ _ 2 100 ⟨sh_2, sh_3⟩ x1 p4) sh_2 rfl wm_170 wm_134 wm_135 wm_22 wm_136 hd_X4_get ⟨rfl, rfl, Nat.le_of_ble_eq_true rfl, Nat.le_of_ble_eq_true rfl⟩ rfl hl.1 (Nat.le_of_ble_eq_true rfl) rfl dX5_textAt_13 ⟨Nat.zero_le _, Nat.zero_le _⟩ (fun r7 s5 H locs h6 G => ?_)
    obtain ⟨er7, es5⟩ := h6
    rw [es5] at G
    have hv := hv r7 er7
    refine lv_goto (tgt := 20) hx hb dX5_textAt_16 (by decide) ?_
    exact g_iret hx hb hr hlk hz G hv dX5_textAt_20
abbrev rm_X5_setByte : Room := ({ frames := 1, cells := 0, slots := 0, locals := 22 } : Room)
theorem hd_X5_setByte : yX5_setByte.cls = RX5 ∧ yX5_setByte.cls ≠ "java/lang/invoke/MethodHandle" ∧ yX5_setByte.cls ≠ "java/lang/invoke/VarHandle" ∧ (parseMethodDescriptor yX5_setByte.desc).map (fun d => d.parameters.length) = some 2 := ⟨rfl, by decide +kernel, by decide +kernel, by decide +kernel⟩
set_option maxHeartbeats 4000000 in
set_option maxRecDepth 100000 in
theorem c_X5_setByte (l : Launch) (w : GW) (σ : St) (sz : Nat) (x1 x2 : Int) (hp : pre_X5_setByte x1 x2 σ) : Met l yX5_setByte (Cond.code yX5_setByte cX5_setByte 3 none :: wsL_law) rm_X5_setByte (gPc w gSL σ sz [.ref (gad w 1), .int (iz x1), .int (iz x2)]) (gQv w gSL sz (post_X5_setByte x1 x2 σ)) 0 0 (gA w gSL.length sz) := by
  have hv : V_X5_setByte x1 x2 σ (post_X5_setByte x1 x2 σ) := v_X5_setByte x1 x2 σ hp
  refine g_met (by decide) [.ref (gad w 1), .int (iz x1), .int (iz x2)] (Nat.le_of_ble_eq_true rfl) ?_
  intro p e s m below meth c ls hz C0 hl G
  obtain ⟨hx, hb, hr, hml, hown, hts, hlk, hNw, hA⟩ := id C0
  have hown : s.vm.findClass RX5 = some m.cls := hown
  have hl : lv_has ls 3 [(0, .ref (gad w 1)), (1, .int (iz x1)), (2, .int (iz x2))] := hl
  refine lv_aload_n hx hb dX5_setByte_0 rfl (lv_at hl 0 rfl) ?_
  refine g_getR hx hb hts hown 0 2 inlX5 G sh_1 rfl (by decide) rfl wm_40 dX5_setByte_1 ?_
  refine lv_iload_n hx hb dX5_setByte_4 rfl (lv_at hl 1 rfl) ?_
  refine lv_iload_n hx hb dX5_setByte_5 rfl (lv_at hl 2 rfl) ?_
  obtain ⟨p1, hv⟩ := hv
  refine g_callVv (rest := []) hx hb hml hts hown hNw hA G [.int (iz x1), .int (iz x2)] (c_X4_set l w σ _ 2 100 ⟨sh_2, sh_3⟩ x1 x2 p1) sh_2 rfl wm_171 wm_138 wm_139 wm_22 wm_140 hd_X4_set ⟨rfl, rfl, Nat.le_of_ble_eq_true rfl, Nat.le_of_ble_eq_true rfl⟩ rfl hl.1 (Nat.le_of_ble_eq_true rfl) rfl dX5_setByte_6 ⟨Nat.zero_le _, Nat.zero_le _⟩ (fun s2 H locs h3 G => ?_)
  have hv := hv s2 h3
  exact g_vret hx hb hr hlk hz G hv dX5_setByte_9
abbrev rm_X6_replace : Room := ({ frames := 5, cells := 0, slots := 0, locals := 98 } : Room)
theorem hd_X6_replace : yX6_replace.cls = RX6 ∧ yX6_replace.cls ≠ "java/lang/invoke/MethodHandle" ∧ yX6_replace.cls ≠ "java/lang/invoke/VarHandle" ∧ (parseMethodDescriptor yX6_replace.desc).map (fun d => d.parameters.length) = some 2 := ⟨rfl, by decide +kernel, by decide +kernel, by decide +kernel⟩
set_option maxHeartbeats 4000000 in
set_option maxRecDepth 100000 in
theorem c_X6_replace (l : Launch) (w : GW) (σ : St) (sz : Nat) (x1 x2 : Int) (hp : pre_X6_replace x1 x2 σ) : Met l yX6_replace (Cond.code yX6_replace cX6_replace 4 (some .int) :: wsL_law) rm_X6_replace (gPc w gSL σ sz [.ref (gad w 0), .int (iz x1), .int (iz x2)]) (gQi w gSL sz (post_X6_replace x1 x2 σ)) 0 0 (gA w gSL.length sz) := by
  have hv : V_X6_replace x1 x2 σ (post_X6_replace x1 x2 σ) := v_X6_replace x1 x2 σ hp
  refine g_met (by decide) [.ref (gad w 0), .int (iz x1), .int (iz x2)] (Nat.le_of_ble_eq_true rfl) ?_
  intro p e s m below meth c ls hz C0 hl G
  obtain ⟨hx, hb, hr, hml, hown, hts, hlk, hNw, hA⟩ := id C0
  have hown : s.vm.findClass RX6 = some m.cls := hown
  have hl : lv_has ls 4 [(0, .ref (gad w 0)), (1, .int (iz x1)), (2, .int (iz x2))] := hl
  refine lv_aload_n hx hb dX6_replace_0 rfl (lv_at hl 0 rfl) ?_
  refine lv_iload_n hx hb dX6_replace_1 rfl (lv_at hl 1 rfl) ?_
  obtain ⟨p1, hv⟩ := hv
  refine g_callVi (rest := []) hx hb hml hts hown hNw hA G [.int (iz x1)] (c_X6_isInText l w σ _ x1 p1) sh_0 rfl wm_195 wm_196 wm_197 wm_2 wm_198 hd_X6_isInText ⟨rfl, rfl, Nat.le_of_ble_eq_true rfl, Nat.le_of_ble_eq_true rfl⟩ rfl hl.1 (Nat.le_of_ble_eq_true rfl) rfl dX6_replace_2 ⟨Nat.zero_le _, Nat.zero_le _⟩ (fun r4 s2 H locs h3 G => ?_)
  obtain ⟨er4, es2⟩ := h3
  rw [es2] at G
  have hv := hv r4 er4
  obtain ⟨i5, hv⟩ := hv
  refine g_if_eq (tgt := 15) hx hb i5 dX6_replace_5 (by decide) (fun c6 => ?_) (fun c6 => ?_)
  · have hv := hv.1 c6
    refine lv_aload_n hx hb dX6_replace_15 rfl (lv_at hl 0 rfl) ?_
    refine lv_bipush (v := iz (-2)) hx hb dX6_replace_16 (by decide +kernel) ?_
    obtain ⟨p7, hv⟩ := hv
    refine g_callVi (rest := []) hx hb hml hts hown hNw hA G [.int (iz (-2))] (c_X6_fail l w σ _ (-2) p7) sh_0 rfl wm_129 wm_130 wm_131 wm_2 wm_132 hd_X6_fail ⟨rfl, rfl, Nat.le_of_ble_eq_true rfl, Nat.le_of_ble_eq_true rfl⟩ rfl hl.1 (Nat.le_of_ble_eq_true rfl) rfl dX6_replace_18 ⟨Nat.zero_le _, Nat.zero_le _⟩ (fun r10 s8 H locs h9 G => ?_)
    have hv := hv r10 h9.1 s8 h9.2
    exact g_iret hx hb hr hlk hz G hv dX6_replace_21
  · have hv := hv.2 c6
    refine lv_iload_n hx hb dX6_replace_8 rfl (lv_at hl 2 rfl) ?_
    obtain ⟨p11, hv⟩ := hv
    refine g_callSi (rest := []) hx hb hml hts hown hNw hA G [.int (iz x2)] (c_X6_isByte l w σ _ x2 p11) wm_126 wm_127 wm_2 wm_128 hd_X6_isByte ⟨rfl, rfl, Nat.le_of_ble_eq_true rfl, Nat.le_of_ble_eq_true rfl⟩ rfl hl.1 (Nat.le_of_ble_eq_true rfl) rfl dX6_replace_9 ⟨Nat.zero_le _, Nat.zero_le _⟩ (fun r14 s12 H locs h13 G => ?_)
    obtain ⟨er14, es12⟩ := h13
    rw [es12] at G
    have hv := hv r14 er14
    obtain ⟨i15, hv⟩ := hv
    refine g_if_ne (tgt := 22) hx hb i15 dX6_replace_12 (by decide) (fun c16 => ?_) (fun c16 => ?_)
    · have hv := hv.1 c16
      refine lv_aload_n hx hb dX6_replace_22 rfl (lv_at hl 0 rfl) ?_
      refine g_getR hx hb hts hown 0 1 inlX6 G sh_0 rfl (by decide) rfl wm_15 dX6_replace_23 ?_
      refine lv_iload_n hx hb dX6_replace_26 rfl (lv_at hl 1 rfl) ?_
      obtain ⟨p17, hv⟩ := hv
      refine g_callVi (rest := []) hx hb hml hts hown hNw hA G [.int (iz x1)] (c_X5_textAt l w σ _ x1 p17) sh_1 rfl wm_199 wm_200 wm_201 wm_14 wm_202 hd_X5_textAt ⟨rfl, rfl, Nat.le_of_ble_eq_true rfl, Nat.le_of_ble_eq_true rfl⟩ rfl hl.1 (Nat.le_of_ble_eq_true rfl) rfl dX6_replace_27 ⟨Nat.zero_le _, Nat.zero_le _⟩ (fun r20 s18 H locs h19 G => ?_)
      obtain ⟨er20, es18⟩ := h19
      rw [es18] at G
      have hv := hv r20 er20
      refine lv_istore_n (lv' := [(3, .int (iz r20)), (0, .ref (gad w 0)), (1, .int (iz x1)), (2, .int (iz x2))]) hx hb dX6_replace_30 rfl hl (by decide) rfl (fun ls hl => ?_)
      refine lv_aload_n hx hb dX6_replace_31 rfl (lv_at hl 1 rfl) ?_
      obtain ⟨p21, hv⟩ := hv
      refine g_callVv (rest := []) hx hb hml hts hown hNw hA G [] (c_X6_prepareChange l w σ _ p21) sh_0 rfl wm_141 wm_142 wm_143 wm_2 wm_144 hd_X6_prepareChange ⟨rfl, rfl, Nat.le_of_ble_eq_true rfl, Nat.le_of_ble_eq_true rfl⟩ rfl hl.1 (Nat.le_of_ble_eq_true rfl) rfl dX6_replace_32 ⟨Nat.zero_le _, Nat.zero_le _⟩ (fun s22 H locs h23 G => ?_)
      have hv := hv s22 h23
      refine lv_aload_n hx hb dX6_replace_35 rfl (lv_at hl 1 rfl) ?_
      refine g_getR hx hb hts hown 0 1 inlX6 G sh_0 rfl (by decide) rfl wm_15 dX6_replace_36 ?_
      refine lv_iload_n hx hb dX6_replace_39 rfl (lv_at hl 2 rfl) ?_
      refine lv_iload_n hx hb dX6_replace_40 rfl (lv_at hl 3 rfl) ?_
      obtain ⟨p24, hv⟩ := hv
      refine g_callVv (rest := []) hx hb hml hts hown hNw hA G [.int (iz x1), .int (iz x2)] (c_X5_setByte l w s22 _ x1 x2 p24) sh_1 rfl wm_203 wm_204 wm_205 wm_14 wm_206 hd_X5_setByte ⟨rfl, rfl, Nat.le_of_ble_eq_true rfl, Nat.le_of_ble_eq_true rfl⟩ rfl hl.1 (Nat.le_of_ble_eq_true rfl) rfl dX6_replace_41 ⟨Nat.zero_le _, Nat.zero_le _⟩ (fun s25 H locs h26 G => ?_)
      have hv := hv s25 h26
      refine lv_iload_n hx hb dX6_replace_44 rfl (lv_at hl 0 rfl) ?_
      exact g_iret hx hb hr hlk hz G hv dX6_replace_45
    · have hv := hv.2 c16
      refine lv_aload_n hx hb dX6_replace_15 rfl (lv_at hl 0 rfl) ?_
      refine lv_bipush (v := iz (-2)) hx hb dX6_replace_16 (by decide +kernel) ?_
      obtain ⟨p27, hv⟩ := hv
      refine g_callVi (rest := []) hx hb hml hts hown hNw hA G [.int (iz (-2))] (c_X6_fail l w σ _ (-2) p27) sh_0 rfl wm_129 wm_130 wm_131 wm_2 wm_132 hd_X6_fail ⟨rfl, rfl, Nat.le_of_ble_eq_true rfl, Nat.le_of_ble_eq_true rfl⟩ rfl hl.1 (Nat.le_of_ble_eq_true rfl) rfl dX6_replace_18 ⟨Nat.zero_le _, Nat.zero_le _⟩ (fun r30 s28 H locs h29 G => ?_)
      have hv := hv r30 h29.1 s28 h29.2
      exact g_iret hx hb hr hlk hz G hv dX6_replace_21
abbrev rm_X5_removeBytes : Room := ({ frames := 1, cells := 0, slots := 0, locals := 22 } : Room)
theorem hd_X5_removeBytes : yX5_removeBytes.cls = RX5 ∧ yX5_removeBytes.cls ≠ "java/lang/invoke/MethodHandle" ∧ yX5_removeBytes.cls ≠ "java/lang/invoke/VarHandle" ∧ (parseMethodDescriptor yX5_removeBytes.desc).map (fun d => d.parameters.length) = some 2 := ⟨rfl, by decide +kernel, by decide +kernel, by decide +kernel⟩
set_option maxHeartbeats 4000000 in
set_option maxRecDepth 100000 in
theorem lw_X5_removeBytes_12 {p : Program} {l : Launch} {e : Env} {s : State} {m : MethodId} {args : Array Value} {below : List Frame} {meth : Method} {c : Code} {w : GW} {sz : Nat} (hz : s.heap.size = sz) (C0 : gC p s m args meth c cX5_removeBytes none 4 yX5_removeBytes.cls (gA w gSL.length sz)) (Q : St → Prop) (y2 : Int) : ∀ (n : Nat) (y3 : Int) (σ : St) (H : Heap) (locs : List Loc) (ls : Array Slot), L_X5_removeBytes_12 Q y2 n y3 σ → gS w gSL σ (gA w gSL.length sz) s s.heap H locs → lv_has ls 4 [(0, .ref (gad w 1)), (2, .int (iz y2)), (3, .int (iz y3))] → W p l e rm_X5_removeBytes s m args below meth c H locs 0 0 (MQ below (gQv w gSL sz Q) args s 0 0 (gA w gSL.length sz)) (F0 m 12 ls []) := by
  obtain ⟨hx, hb, hr, hml, hown, hts, hlk, hNw, hA⟩ := id C0
  have hown : s.vm.findClass RX5 = some m.cls := hown
  intro n
  induction n with
  | zero => intro y3 σ H locs ls hv; exact hv.elim
  | succ n ih =>
    intro y3 σ H locs ls hv G hl
    refine lv_iload_n hx hb dX5_removeBytes_12 rfl (lv_at hl 2 rfl) ?_
    refine lv_aload_n hx hb dX5_removeBytes_13 rfl (lv_at hl 0 rfl) ?_
    refine g_getI hx hb hts hown 4 inlX5 G sh_1 rfl (by decide) rfl wm_44 dX5_removeBytes_14 ?_
    obtain ⟨i2, hv⟩ := hv
    obtain ⟨i3, hv⟩ := hv
    refine g_icmp_ge (tgt := 44) hx hb i2 i3 dX5_removeBytes_17 (by decide) (fun c4 => ?_) (fun c4 => ?_)
    · have hv := hv.1 c4
      exact g_vret hx hb hr hlk hz G hv dX5_removeBytes_44
    · have hv := hv.2 c4
      refine lv_aload_n hx hb dX5_removeBytes_20 rfl (lv_at hl 0 rfl) ?_
      refine g_getR hx hb hts hown 0 2 inlX5 G sh_1 rfl (by decide) rfl wm_40 dX5_removeBytes_21 ?_
      refine lv_iload_n hx hb dX5_removeBytes_24 rfl (lv_at hl 2 rfl) ?_
      refine lv_aload_n hx hb dX5_removeBytes_25 rfl (lv_at hl 0 rfl) ?_
      refine g_getR hx hb hts hown 0 2 inlX5 G sh_1 rfl (by decide) rfl wm_40 dX5_removeBytes_26 ?_
      refine lv_iload_n hx hb dX5_removeBytes_29 rfl (lv_at hl 2 rfl) ?_
      refine lv_iload_n hx hb dX5_removeBytes_30 rfl (lv_at hl 1 rfl) ?_
      refine g_iadd hx hb dX5_removeBytes_31 ?_
      obtain ⟨p5, hv⟩ := hv
      refine g_callVi (rest := [.int (iz y3), .ref (gad w 2)]) hx hb hml hts hown hNw hA G [.int (iz (y3 + y2))] (c_X4_get l w σ _ 2 100 ⟨sh_2, sh_3⟩ (y3 + y2) p5) sh_2 rfl wm_170 wm_134 wm_135 wm_22 wm_136 hd_X4_get ⟨rfl, rfl, Nat.le_of_ble_eq_true rfl, Nat.le_of_ble_eq_true rfl⟩ rfl hl.1 (Nat.le_of_ble_eq_true rfl) rfl dX5_removeBytes_32 ⟨Nat.zero_le _, Nat.zero_le _⟩ (fun r8 s6 H locs h7 G => ?_)
      obtain ⟨er8, es6⟩ := h7
      rw [es6] at G
      have hv := hv r8 er8
      obtain ⟨p9, hv⟩ := hv
      refine g_callVv (rest := []) hx hb hml hts hown hNw hA G [.int (iz y3), .int (iz r8)] (c_X4_set l w σ _ 2 100 ⟨sh_2, sh_3⟩ y3 r8 p9) sh_2 rfl wm_171 wm_138 wm_139 wm_22 wm_140 hd_X4_set ⟨rfl, rfl, Nat.le_of_ble_eq_true rfl, Nat.le_of_ble_eq_true rfl⟩ rfl hl.1 (Nat.le_of_ble_eq_true rfl) rfl dX5_removeBytes_35 ⟨Nat.zero_le _, Nat.zero_le _⟩ (fun s10 H locs h11 G => ?_)
      have hv := hv s10 h11
      refine g_iinc (k := 2) (x := y3) (n := 1) (lv' := [(3, .int (iz (y3 + 1))), (0, .ref (gad w 1)), (2, .int (iz y2))]) hx hb dX5_removeBytes_38 hl rfl (by decide) rfl (fun ls hl => ?_)
      refine lv_goto (tgt := 12) hx hb dX5_removeBytes_41 (by decide) ?_
      exact ih _ _ _ _ _ hv G (lv_sub hl [1, 2, 0] rfl)
set_option maxHeartbeats 4000000 in
set_option maxRecDepth 100000 in
theorem c_X5_removeBytes (l : Launch) (w : GW) (σ : St) (sz : Nat) (x1 x2 : Int) (hp : pre_X5_removeBytes x1 x2 σ) : Met l yX5_removeBytes (Cond.code yX5_removeBytes cX5_removeBytes 4 none :: wsL_law) rm_X5_removeBytes (gPc w gSL σ sz [.ref (gad w 1), .int (iz x1), .int (iz x2)]) (gQv w gSL sz (post_X5_removeBytes x1 x2 σ)) 0 0 (gA w gSL.length sz) := by
  have hv : V_X5_removeBytes x1 x2 σ (post_X5_removeBytes x1 x2 σ) := v_X5_removeBytes x1 x2 σ hp
  refine g_met (by decide) [.ref (gad w 1), .int (iz x1), .int (iz x2)] (Nat.le_of_ble_eq_true rfl) ?_
  intro p e s m below meth c ls hz C0 hl G
  obtain ⟨hx, hb, hr, hml, hown, hts, hlk, hNw, hA⟩ := id C0
  have hown : s.vm.findClass RX5 = some m.cls := hown
  have hl : lv_has ls 4 [(0, .ref (gad w 1)), (1, .int (iz x1)), (2, .int (iz x2))] := hl
  refine lv_aload_n hx hb dX5_removeBytes_0 rfl (lv_at hl 0 rfl) ?_
  refine lv_dup hx hb dX5_removeBytes_1 rfl ?_
  refine g_getI hx hb hts hown 4 inlX5 G sh_1 rfl (by decide) rfl wm_44 dX5_removeBytes_2 ?_
  refine lv_iload_n hx hb dX5_removeBytes_5 rfl (lv_at hl 2 rfl) ?_
  refine g_isub hx hb dX5_removeBytes_6 ?_
  refine g_putI hx hb hts hown 4 inlX5 tyX5 tyX5_ok nmX5 G sh_1 rfl (by decide) rfl wm_44 rfl rfl rfl dX5_removeBytes_7 (fun s1 es1 H locs G => ?_)
  have hv := hv s1 es1
  refine lv_iload_n hx hb dX5_removeBytes_10 rfl (lv_at hl 1 rfl) ?_
  refine lv_istore_n (lv' := [(3, .int (iz x1)), (0, .ref (gad w 1)), (1, .int (iz x1)), (2, .int (iz x2))]) hx hb dX5_removeBytes_11 rfl hl (by decide) rfl (fun ls hl => ?_)
  obtain ⟨n_, hv⟩ := hv
  exact lw_X5_removeBytes_12 (l := l) (p := p) (e := e) hz C0 _ x2 n_ _ _ _ _ _ hv G (lv_sub hl [1, 3, 0] rfl)
abbrev rm_X6_delete : Room := ({ frames := 5, cells := 0, slots := 0, locals := 98 } : Room)
theorem hd_X6_delete : yX6_delete.cls = RX6 ∧ yX6_delete.cls ≠ "java/lang/invoke/MethodHandle" ∧ yX6_delete.cls ≠ "java/lang/invoke/VarHandle" ∧ (parseMethodDescriptor yX6_delete.desc).map (fun d => d.parameters.length) = some 2 := ⟨rfl, by decide +kernel, by decide +kernel, by decide +kernel⟩
set_option maxHeartbeats 4000000 in
set_option maxRecDepth 100000 in
theorem c_X6_delete (l : Launch) (w : GW) (σ : St) (sz : Nat) (x1 x2 : Int) (hp : pre_X6_delete x1 x2 σ) : Met l yX6_delete (Cond.code yX6_delete cX6_delete 3 (some .int) :: wsL_law) rm_X6_delete (gPc w gSL σ sz [.ref (gad w 0), .int (iz x1), .int (iz x2)]) (gQi w gSL sz (post_X6_delete x1 x2 σ)) 0 0 (gA w gSL.length sz) := by
  have hv : V_X6_delete x1 x2 σ (post_X6_delete x1 x2 σ) := v_X6_delete x1 x2 σ hp
  refine g_met (by decide) [.ref (gad w 0), .int (iz x1), .int (iz x2)] (Nat.le_of_ble_eq_true rfl) ?_
  intro p e s m below meth c ls hz C0 hl G
  obtain ⟨hx, hb, hr, hml, hown, hts, hlk, hNw, hA⟩ := id C0
  have hown : s.vm.findClass RX6 = some m.cls := hown
  have hl : lv_has ls 3 [(0, .ref (gad w 0)), (1, .int (iz x1)), (2, .int (iz x2))] := hl
  refine lv_aload_n hx hb dX6_delete_0 rfl (lv_at hl 0 rfl) ?_
  refine lv_iload_n hx hb dX6_delete_1 rfl (lv_at hl 1 rfl) ?_
  obtain ⟨p1, hv⟩ := hv
  refine g_callVi (rest := []) hx hb hml hts hown hNw hA G [.int (iz x1)] (c_X6_isInText l w σ _ x1 p1) sh_0 rfl wm_195 wm_196 wm_197 wm_2 wm_198 hd_X6_isInText ⟨rfl, rfl, Nat.le_of_ble_eq_true rfl, Nat.le_of_ble_eq_true rfl⟩ rfl hl.1 (Nat.le_of_ble_eq_true rfl) rfl dX6_delete_2 ⟨Nat.zero_le _, Nat.zero_le _⟩ (fun r4 s2 H locs h3 G => ?_)
  obtain ⟨er4, es2⟩ := h3
  rw [es2] at G
  have hv := hv r4 er4
  obtain ⟨i5, hv⟩ := hv
  refine g_if_eq (tgt := 26) hx hb i5 dX6_delete_5 (by decide) (fun c6 => ?_) (fun c6 => ?_)
  · have hv := hv.1 c6
    refine lv_aload_n hx hb dX6_delete_26 rfl (lv_at hl 0 rfl) ?_
    refine lv_bipush (v := iz (-2)) hx hb dX6_delete_27 (by decide +kernel) ?_
    obtain ⟨p7, hv⟩ := hv
    refine g_callVi (rest := []) hx hb hml hts hown hNw hA G [.int (iz (-2))] (c_X6_fail l w σ _ (-2) p7) sh_0 rfl wm_129 wm_130 wm_131 wm_2 wm_132 hd_X6_fail ⟨rfl, rfl, Nat.le_of_ble_eq_true rfl, Nat.le_of_ble_eq_true rfl⟩ rfl hl.1 (Nat.le_of_ble_eq_true rfl) rfl dX6_delete_29 ⟨Nat.zero_le _, Nat.zero_le _⟩ (fun r10 s8 H locs h9 G => ?_)
    have hv := hv r10 h9.1 s8 h9.2
    exact g_iret hx hb hr hlk hz G hv dX6_delete_32
  · have hv := hv.2 c6
    refine lv_iload_n hx hb dX6_delete_8 rfl (lv_at hl 2 rfl) ?_
    refine lv_iconst (v := iz 1) hx hb dX6_delete_9 rfl ?_
    obtain ⟨i11, hv⟩ := hv
    refine g_icmp_lt (tgt := 26) hx hb i11 ⟨by decide, by decide⟩ dX6_delete_10 (by decide) (fun c12 => ?_) (fun c12 => ?_)
    · have hv := hv.1 c12
      refine lv_aload_n hx hb dX6_delete_26 rfl (lv_at hl 0 rfl) ?_
      refine lv_bipush (v := iz (-2)) hx hb dX6_delete_27 (by decide +kernel) ?_
      obtain ⟨p13, hv⟩ := hv
      refine g_callVi (rest := []) hx hb hml hts hown hNw hA G [.int (iz (-2))] (c_X6_fail l w σ _ (-2) p13) sh_0 rfl wm_129 wm_130 wm_131 wm_2 wm_132 hd_X6_fail ⟨rfl, rfl, Nat.le_of_ble_eq_true rfl, Nat.le_of_ble_eq_true rfl⟩ rfl hl.1 (Nat.le_of_ble_eq_true rfl) rfl dX6_delete_29 ⟨Nat.zero_le _, Nat.zero_le _⟩ (fun r16 s14 H locs h15 G => ?_)
      have hv := hv r16 h15.1 s14 h15.2
      exact g_iret hx hb hr hlk hz G hv dX6_delete_32
    · have hv := hv.2 c12
      refine lv_iload_n hx hb dX6_delete_13 rfl (lv_at hl 2 rfl) ?_
      refine lv_aload_n hx hb dX6_delete_14 rfl (lv_at hl 0 rfl) ?_
      refine g_getR hx hb hts hown 0 1 inlX6 G sh_0 rfl (by decide) rfl wm_15 dX6_delete_15 ?_
      obtain ⟨p17, hv⟩ := hv
      refine g_callVi (rest := [.int (iz x2)]) hx hb hml hts hown hNw hA G [] (c_X5_textSize l w σ _ p17) sh_1 rfl wm_122 wm_123 wm_124 wm_14 wm_125 hd_X5_textSize ⟨rfl, rfl, Nat.le_of_ble_eq_true rfl, Nat.le_of_ble_eq_true rfl⟩ rfl hl.1 (Nat.le_of_ble_eq_true rfl) rfl dX6_delete_18 ⟨Nat.zero_le _, Nat.zero_le _⟩ (fun r20 s18 H locs h19 G => ?_)
      obtain ⟨er20, es18⟩ := h19
      rw [es18] at G
      have hv := hv r20 er20
      refine lv_iload_n hx hb dX6_delete_21 rfl (lv_at hl 1 rfl) ?_
      refine g_isub hx hb dX6_delete_22 ?_
      obtain ⟨i21, hv⟩ := hv
      refine g_icmp_le (tgt := 33) hx hb i11 i21 dX6_delete_23 (by decide) (fun c22 => ?_) (fun c22 => ?_)
      · have hv := hv.1 c22
        refine lv_aload_n hx hb dX6_delete_33 rfl (lv_at hl 0 rfl) ?_
        obtain ⟨p23, hv⟩ := hv
        refine g_callVv (rest := []) hx hb hml hts hown hNw hA G [] (c_X6_prepareChange l w σ _ p23) sh_0 rfl wm_141 wm_142 wm_143 wm_2 wm_144 hd_X6_prepareChange ⟨rfl, rfl, Nat.le_of_ble_eq_true rfl, Nat.le_of_ble_eq_true rfl⟩ rfl hl.1 (Nat.le_of_ble_eq_true rfl) rfl dX6_delete_34 ⟨Nat.zero_le _, Nat.zero_le _⟩ (fun s24 H locs h25 G => ?_)
        have hv := hv s24 h25
        refine lv_aload_n hx hb dX6_delete_37 rfl (lv_at hl 0 rfl) ?_
        refine g_getR hx hb hts hown 0 1 inlX6 G sh_0 rfl (by decide) rfl wm_15 dX6_delete_38 ?_
        refine lv_iload_n hx hb dX6_delete_41 rfl (lv_at hl 1 rfl) ?_
        refine lv_iload_n hx hb dX6_delete_42 rfl (lv_at hl 2 rfl) ?_
        obtain ⟨p26, hv⟩ := hv
        refine g_callVv (rest := []) hx hb hml hts hown hNw hA G [.int (iz x1), .int (iz x2)] (c_X5_removeBytes l w s24 _ x1 x2 p26) sh_1 rfl wm_219 wm_220 wm_221 wm_14 wm_222 hd_X5_removeBytes ⟨rfl, rfl, Nat.le_of_ble_eq_true rfl, Nat.le_of_ble_eq_true rfl⟩ rfl hl.1 (Nat.le_of_ble_eq_true rfl) rfl dX6_delete_43 ⟨Nat.zero_le _, Nat.zero_le _⟩ (fun s27 H locs h28 G => ?_)
        have hv := hv s27 h28
        refine lv_aload_n hx hb dX6_delete_46 rfl (lv_at hl 0 rfl) ?_
        refine g_getR hx hb hts hown 0 1 inlX6 G sh_0 rfl (by decide) rfl wm_15 dX6_delete_47 ?_
        obtain ⟨p29, hv⟩ := hv
        refine g_callVi (rest := []) hx hb hml hts hown hNw hA G [] (c_X5_textSize l w s27 _ p29) sh_1 rfl wm_122 wm_123 wm_124 wm_14 wm_125 hd_X5_textSize ⟨rfl, rfl, Nat.le_of_ble_eq_true rfl, Nat.le_of_ble_eq_true rfl⟩ rfl hl.1 (Nat.le_of_ble_eq_true rfl) rfl dX6_delete_50 ⟨Nat.zero_le _, Nat.zero_le _⟩ (fun r32 s30 H locs h31 G => ?_)
        obtain ⟨er32, es30⟩ := h31
        rw [es30] at G
        have hv := hv r32 er32
        exact g_iret hx hb hr hlk hz G hv dX6_delete_53
      · have hv := hv.2 c22
        refine lv_aload_n hx hb dX6_delete_26 rfl (lv_at hl 0 rfl) ?_
        refine lv_bipush (v := iz (-2)) hx hb dX6_delete_27 (by decide +kernel) ?_
        obtain ⟨p33, hv⟩ := hv
        refine g_callVi (rest := []) hx hb hml hts hown hNw hA G [.int (iz (-2))] (c_X6_fail l w σ _ (-2) p33) sh_0 rfl wm_129 wm_130 wm_131 wm_2 wm_132 hd_X6_fail ⟨rfl, rfl, Nat.le_of_ble_eq_true rfl, Nat.le_of_ble_eq_true rfl⟩ rfl hl.1 (Nat.le_of_ble_eq_true rfl) rfl dX6_delete_29 ⟨Nat.zero_le _, Nat.zero_le _⟩ (fun r36 s34 H locs h35 G => ?_)
        have hv := hv r36 h35.1 s34 h35.2
        exact g_iret hx hb hr hlk hz G hv dX6_delete_32
abbrev rm_X6_length : Room := ({ frames := 1, cells := 0, slots := 0, locals := 20 } : Room)
theorem hd_X6_length : yX6_length.cls = RX6 ∧ yX6_length.cls ≠ "java/lang/invoke/MethodHandle" ∧ yX6_length.cls ≠ "java/lang/invoke/VarHandle" ∧ (parseMethodDescriptor yX6_length.desc).map (fun d => d.parameters.length) = some 0 := ⟨rfl, by decide +kernel, by decide +kernel, by decide +kernel⟩
set_option maxHeartbeats 4000000 in
set_option maxRecDepth 100000 in
theorem c_X6_length (l : Launch) (w : GW) (σ : St) (sz : Nat) (hp : pre_X6_length σ) : Met l yX6_length (Cond.code yX6_length cX6_length 1 (some .int) :: wsL_law) rm_X6_length (gPc w gSL σ sz [.ref (gad w 0)]) (gQi w gSL sz (post_X6_length σ)) 0 0 (gA w gSL.length sz) := by
  have hv : V_X6_length σ (post_X6_length σ) := v_X6_length σ hp
  refine g_met (by decide) [.ref (gad w 0)] (Nat.le_of_ble_eq_true rfl) ?_
  intro p e s m below meth c ls hz C0 hl G
  obtain ⟨hx, hb, hr, hml, hown, hts, hlk, hNw, hA⟩ := id C0
  have hown : s.vm.findClass RX6 = some m.cls := hown
  have hl : lv_has ls 1 [(0, .ref (gad w 0))] := hl
  refine lv_aload_n hx hb dX6_length_0 rfl (lv_at hl 0 rfl) ?_
  refine g_getR hx hb hts hown 0 1 inlX6 G sh_0 rfl (by decide) rfl wm_15 dX6_length_1 ?_
  obtain ⟨p1, hv⟩ := hv
  refine g_callVi (rest := []) hx hb hml hts hown hNw hA G [] (c_X5_textSize l w σ _ p1) sh_1 rfl wm_122 wm_123 wm_124 wm_14 wm_125 hd_X5_textSize ⟨rfl, rfl, Nat.le_of_ble_eq_true rfl, Nat.le_of_ble_eq_true rfl⟩ rfl hl.1 (Nat.le_of_ble_eq_true rfl) rfl dX6_length_4 ⟨Nat.zero_le _, Nat.zero_le _⟩ (fun r4 s2 H locs h3 G => ?_)
  obtain ⟨er4, es2⟩ := h3
  rw [es2] at G
  have hv := hv r4 er4
  exact g_iret hx hb hr hlk hz G hv dX6_length_7
abbrev rm_X6_byteAt : Room := ({ frames := 2, cells := 0, slots := 0, locals := 44 } : Room)
theorem hd_X6_byteAt : yX6_byteAt.cls = RX6 ∧ yX6_byteAt.cls ≠ "java/lang/invoke/MethodHandle" ∧ yX6_byteAt.cls ≠ "java/lang/invoke/VarHandle" ∧ (parseMethodDescriptor yX6_byteAt.desc).map (fun d => d.parameters.length) = some 1 := ⟨rfl, by decide +kernel, by decide +kernel, by decide +kernel⟩
set_option maxHeartbeats 4000000 in
set_option maxRecDepth 100000 in
theorem c_X6_byteAt (l : Launch) (w : GW) (σ : St) (sz : Nat) (x1 : Int) (hp : pre_X6_byteAt x1 σ) : Met l yX6_byteAt (Cond.code yX6_byteAt cX6_byteAt 2 (some .int) :: wsL_law) rm_X6_byteAt (gPc w gSL σ sz [.ref (gad w 0), .int (iz x1)]) (gQi w gSL sz (post_X6_byteAt x1 σ)) 0 0 (gA w gSL.length sz) := by
  have hv : V_X6_byteAt x1 σ (post_X6_byteAt x1 σ) := v_X6_byteAt x1 σ hp
  refine g_met (by decide) [.ref (gad w 0), .int (iz x1)] (Nat.le_of_ble_eq_true rfl) ?_
  intro p e s m below meth c ls hz C0 hl G
  obtain ⟨hx, hb, hr, hml, hown, hts, hlk, hNw, hA⟩ := id C0
  have hown : s.vm.findClass RX6 = some m.cls := hown
  have hl : lv_has ls 2 [(0, .ref (gad w 0)), (1, .int (iz x1))] := hl
  refine lv_aload_n hx hb dX6_byteAt_0 rfl (lv_at hl 0 rfl) ?_
  refine lv_iload_n hx hb dX6_byteAt_1 rfl (lv_at hl 1 rfl) ?_
  obtain ⟨p1, hv⟩ := hv
  refine g_callVi (rest := []) hx hb hml hts hown hNw hA G [.int (iz x1)] (c_X6_isInText l w σ _ x1 p1) sh_0 rfl wm_195 wm_196 wm_197 wm_2 wm_198 hd_X6_isInText ⟨rfl, rfl, Nat.le_of_ble_eq_true rfl, Nat.le_of_ble_eq_true rfl⟩ rfl hl.1 (Nat.le_of_ble_eq_true rfl) rfl dX6_byteAt_2 ⟨Nat.zero_le _, Nat.zero_le _⟩ (fun r4 s2 H locs h3 G => ?_)
  obtain ⟨er4, es2⟩ := h3
  rw [es2] at G
  have hv := hv r4 er4
  obtain ⟨i5, hv⟩ := hv
  refine g_if_eq (tgt := 19) hx hb i5 dX6_byteAt_5 (by decide) (fun c6 => ?_) (fun c6 => ?_)
  · have hv := hv.1 c6
    refine lv_aload_n hx hb dX6_byteAt_19 rfl (lv_at hl 0 rfl) ?_
    refine lv_bipush (v := iz (-2)) hx hb dX6_byteAt_20 (by decide +kernel) ?_
    obtain ⟨p7, hv⟩ := hv
    refine g_callVi (rest := []) hx hb hml hts hown hNw hA G [.int (iz (-2))] (c_X6_fail l w σ _ (-2) p7) sh_0 rfl wm_129 wm_130 wm_131 wm_2 wm_132 hd_X6_fail ⟨rfl, rfl, Nat.le_of_ble_eq_true rfl, Nat.le_of_ble_eq_true rfl⟩ rfl hl.1 (Nat.le_of_ble_eq_true rfl) rfl dX6_byteAt_22 ⟨Nat.zero_le _, Nat.zero_le _⟩ (fun r10 s8 H locs h9 G => ?_)
    have hv := hv r10 h9.1 s8 h9.2
    exact g_iret hx hb hr hlk hz G hv dX6_byteAt_25
  · have hv := hv.2 c6
    refine lv_aload_n hx hb dX6_byteAt_8 rfl (lv_at hl 0 rfl) ?_
    refine g_getR hx hb hts hown 0 1 inlX6 G sh_0 rfl (by decide) rfl wm_15 dX6_byteAt_9 ?_
    refine lv_iload_n hx hb dX6_byteAt_12 rfl (lv_at hl 1 rfl) ?_
    obtain ⟨p11, hv⟩ := hv
    refine g_callVi (rest := []) hx hb hml hts hown hNw hA G [.int (iz x1)] (c_X5_textAt l w σ _ x1 p11) sh_1 rfl wm_199 wm_200 wm_201 wm_14 wm_202 hd_X5_textAt ⟨rfl, rfl, Nat.le_of_ble_eq_true rfl, Nat.le_of_ble_eq_true rfl⟩ rfl hl.1 (Nat.le_of_ble_eq_true rfl) rfl dX6_byteAt_13 ⟨Nat.zero_le _, Nat.zero_le _⟩ (fun r14 s12 H locs h13 G => ?_)
    obtain ⟨er14, es12⟩ := h13
    rw [es12] at G
    have hv := hv r14 er14
    refine lv_goto (tgt := 25) hx hb dX6_byteAt_16 (by decide) ?_
    exact g_iret hx hb hr hlk hz G hv dX6_byteAt_25
abbrev rm_X6_append : Room := ({ frames := 2, cells := 0, slots := 0, locals := 44 } : Room)
theorem hd_X6_append : yX6_append.cls = RX6 ∧ yX6_append.cls ≠ "java/lang/invoke/MethodHandle" ∧ yX6_append.cls ≠ "java/lang/invoke/VarHandle" ∧ (parseMethodDescriptor yX6_append.desc).map (fun d => d.parameters.length) = some 1 := ⟨rfl, by decide +kernel, by decide +kernel, by decide +kernel⟩
set_option maxHeartbeats 4000000 in
set_option maxRecDepth 100000 in
theorem c_X6_append (l : Launch) (w : GW) (σ : St) (sz : Nat) (x1 : Int) (hp : pre_X6_append x1 σ) : Met l yX6_append (Cond.code yX6_append cX6_append 2 (some .int) :: wsL_law) rm_X6_append (gPc w gSL σ sz [.ref (gad w 0), .int (iz x1)]) (gQi w gSL sz (post_X6_append x1 σ)) 0 0 (gA w gSL.length sz) := by
  have hv : V_X6_append x1 σ (post_X6_append x1 σ) := v_X6_append x1 σ hp
  refine g_met (by decide) [.ref (gad w 0), .int (iz x1)] (Nat.le_of_ble_eq_true rfl) ?_
  intro p e s m below meth c ls hz C0 hl G
  obtain ⟨hx, hb, hr, hml, hown, hts, hlk, hNw, hA⟩ := id C0
  have hown : s.vm.findClass RX6 = some m.cls := hown
  have hl : lv_has ls 2 [(0, .ref (gad w 0)), (1, .int (iz x1))] := hl
  refine lv_iload_n hx hb dX6_append_0 rfl (lv_at hl 1 rfl) ?_
  obtain ⟨p1, hv⟩ := hv
  refine g_callSi (rest := []) hx hb hml hts hown hNw hA G [.int (iz x1)] (c_X6_isByte l w σ _ x1 p1) wm_126 wm_127 wm_2 wm_128 hd_X6_isByte ⟨rfl, rfl, Nat.le_of_ble_eq_true rfl, Nat.le_of_ble_eq_true rfl⟩ rfl hl.1 (Nat.le_of_ble_eq_true rfl) rfl dX6_append_1 ⟨Nat.zero_le _, Nat.zero_le _⟩ (fun r4 s2 H locs h3 G => ?_)
  obtain ⟨er4, es2⟩ := h3
  rw [es2] at G
  have hv := hv r4 er4
  obtain ⟨i5, hv⟩ := hv
  refine g_if_ne (tgt := 14) hx hb i5 dX6_append_4 (by decide) (fun c6 => ?_) (fun c6 => ?_)
  · have hv := hv.1 c6
    refine lv_aload_n hx hb dX6_append_14 rfl (lv_at hl 0 rfl) ?_
    refine g_getI hx hb hts hown 6 inlX6 G sh_0 rfl (by decide) rfl wm_33 dX6_append_15 ?_
    refine lv_bipush (v := iz 8) hx hb dX6_append_18 (by decide +kernel) ?_
    obtain ⟨i7, hv⟩ := hv
    refine g_icmp_lt (tgt := 30) hx hb i7 ⟨by decide, by decide⟩ dX6_append_20 (by decide) (fun c8 => ?_) (fun c8 => ?_)
    · have hv := hv.1 c8
      refine lv_aload_n hx hb dX6_append_30 rfl (lv_at hl 0 rfl) ?_
      refine g_getR hx hb hts hown 2 48 inlX6 G sh_0 rfl (by decide) rfl wm_23 dX6_append_31 ?_
      refine lv_aload_n hx hb dX6_append_34 rfl (lv_at hl 0 rfl) ?_
      refine g_getI hx hb hts hown 6 inlX6 G sh_0 rfl (by decide) rfl wm_33 dX6_append_35 ?_
      refine lv_iload_n hx hb dX6_append_38 rfl (lv_at hl 1 rfl) ?_
      obtain ⟨p9, hv⟩ := hv
      refine g_callVv (rest := []) hx hb hml hts hown hNw hA G [.int (iz (σ 0 6)), .int (iz x1)] (c_X4_set l w σ _ 48 8 ⟨sh_48, sh_49⟩ (σ 0 6) x1 p9) sh_48 rfl wm_137 wm_138 wm_139 wm_22 wm_140 hd_X4_set ⟨rfl, rfl, Nat.le_of_ble_eq_true rfl, Nat.le_of_ble_eq_true rfl⟩ rfl hl.1 (Nat.le_of_ble_eq_true rfl) rfl dX6_append_39 ⟨Nat.zero_le _, Nat.zero_le _⟩ (fun s10 H locs h11 G => ?_)
      have hv := hv s10 h11
      refine lv_aload_n hx hb dX6_append_42 rfl (lv_at hl 0 rfl) ?_
      refine lv_dup hx hb dX6_append_43 rfl ?_
      refine g_getI hx hb hts hown 6 inlX6 G sh_0 rfl (by decide) rfl wm_33 dX6_append_44 ?_
      refine lv_iconst (v := iz 1) hx hb dX6_append_47 rfl ?_
      refine g_iadd hx hb dX6_append_48 ?_
      refine g_putI hx hb hts hown 6 inlX6 tyX6 tyX6_ok nmX6 G sh_0 rfl (by decide) rfl wm_33 rfl rfl rfl dX6_append_49 (fun s12 es12 H locs G => ?_)
      have hv := hv s12 es12
      refine lv_aload_n hx hb dX6_append_52 rfl (lv_at hl 0 rfl) ?_
      refine g_getI hx hb hts hown 6 inlX6 G sh_0 rfl (by decide) rfl wm_33 dX6_append_53 ?_
      exact g_iret hx hb hr hlk hz G hv dX6_append_56
    · have hv := hv.2 c8
      refine lv_aload_n hx hb dX6_append_23 rfl (lv_at hl 0 rfl) ?_
      refine lv_bipush (v := iz (-4)) hx hb dX6_append_24 (by decide +kernel) ?_
      obtain ⟨p13, hv⟩ := hv
      refine g_callVi (rest := []) hx hb hml hts hown hNw hA G [.int (iz (-4))] (c_X6_fail l w σ _ (-4) p13) sh_0 rfl wm_129 wm_130 wm_131 wm_2 wm_132 hd_X6_fail ⟨rfl, rfl, Nat.le_of_ble_eq_true rfl, Nat.le_of_ble_eq_true rfl⟩ rfl hl.1 (Nat.le_of_ble_eq_true rfl) rfl dX6_append_26 ⟨Nat.zero_le _, Nat.zero_le _⟩ (fun r16 s14 H locs h15 G => ?_)
      have hv := hv r16 h15.1 s14 h15.2
      exact g_iret hx hb hr hlk hz G hv dX6_append_29
  · have hv := hv.2 c6
    refine lv_aload_n hx hb dX6_append_7 rfl (lv_at hl 0 rfl) ?_
    refine lv_bipush (v := iz (-2)) hx hb dX6_append_8 (by decide +kernel) ?_
    obtain ⟨p17, hv⟩ := hv
    refine g_callVi (rest := []) hx hb hml hts hown hNw hA G [.int (iz (-2))] (c_X6_fail l w σ _ (-2) p17) sh_0 rfl wm_129 wm_130 wm_131 wm_2 wm_132 hd_X6_fail ⟨rfl, rfl, Nat.le_of_ble_eq_true rfl, Nat.le_of_ble_eq_true rfl⟩ rfl hl.1 (Nat.le_of_ble_eq_true rfl) rfl dX6_append_10 ⟨Nat.zero_le _, Nat.zero_le _⟩ (fun r20 s18 H locs h19 G => ?_)
    have hv := hv r20 h19.1 s18 h19.2
    exact g_iret hx hb hr hlk hz G hv dX6_append_13
abbrev rm_X6_clearPattern : Room := ({ frames := 0, cells := 0, slots := 0, locals := 0 } : Room)
theorem hd_X6_clearPattern : yX6_clearPattern.cls = RX6 ∧ yX6_clearPattern.cls ≠ "java/lang/invoke/MethodHandle" ∧ yX6_clearPattern.cls ≠ "java/lang/invoke/VarHandle" ∧ (parseMethodDescriptor yX6_clearPattern.desc).map (fun d => d.parameters.length) = some 0 := ⟨rfl, by decide +kernel, by decide +kernel, by decide +kernel⟩
set_option maxHeartbeats 4000000 in
set_option maxRecDepth 100000 in
theorem c_X6_clearPattern (l : Launch) (w : GW) (σ : St) (sz : Nat) (hp : pre_X6_clearPattern σ) : Met l yX6_clearPattern (Cond.code yX6_clearPattern cX6_clearPattern 2 (some .int) :: wsL_law) rm_X6_clearPattern (gPc w gSL σ sz [.ref (gad w 0)]) (gQi w gSL sz (post_X6_clearPattern σ)) 0 0 (gA w gSL.length sz) := by
  have hv : V_X6_clearPattern σ (post_X6_clearPattern σ) := v_X6_clearPattern σ hp
  refine g_met (by decide) [.ref (gad w 0)] (Nat.le_of_ble_eq_true rfl) ?_
  intro p e s m below meth c ls hz C0 hl G
  obtain ⟨hx, hb, hr, hml, hown, hts, hlk, hNw, hA⟩ := id C0
  have hown : s.vm.findClass RX6 = some m.cls := hown
  have hl : lv_has ls 2 [(0, .ref (gad w 0))] := hl
  refine lv_aload_n hx hb dX6_clearPattern_0 rfl (lv_at hl 0 rfl) ?_
  refine g_getI hx hb hts hown 6 inlX6 G sh_0 rfl (by decide) rfl wm_33 dX6_clearPattern_1 ?_
  refine lv_istore_n (lv' := [(1, .int (iz (σ 0 6))), (0, .ref (gad w 0))]) hx hb dX6_clearPattern_4 rfl hl (by decide) rfl (fun ls hl => ?_)
  refine lv_aload_n hx hb dX6_clearPattern_5 rfl (lv_at hl 1 rfl) ?_
  refine lv_iconst (v := iz 0) hx hb dX6_clearPattern_6 rfl ?_
  refine g_putI hx hb hts hown 6 inlX6 tyX6 tyX6_ok nmX6 G sh_0 rfl (by decide) rfl wm_33 rfl rfl rfl dX6_clearPattern_7 (fun s1 es1 H locs G => ?_)
  have hv := hv s1 es1
  refine lv_iload_n hx hb dX6_clearPattern_10 rfl (lv_at hl 0 rfl) ?_
  exact g_iret hx hb hr hlk hz G hv dX6_clearPattern_11
abbrev rm_X6_isRule : Room := ({ frames := 0, cells := 0, slots := 0, locals := 0 } : Room)
theorem hd_X6_isRule : yX6_isRule.cls ≠ "java/lang/invoke/MethodHandle" ∧ yX6_isRule.cls ≠ "java/lang/invoke/VarHandle" ∧ (parseMethodDescriptor yX6_isRule.desc).map (fun d => d.parameters.length) = some 1 := ⟨by decide +kernel, by decide +kernel, by decide +kernel⟩
set_option maxHeartbeats 4000000 in
set_option maxRecDepth 100000 in
theorem c_X6_isRule (l : Launch) (w : GW) (σ : St) (sz : Nat) (x0 : Int) (hp : pre_X6_isRule x0 σ) : Met l yX6_isRule (Cond.code yX6_isRule cX6_isRule 1 (some .boolean) :: wsL_law) rm_X6_isRule (gPc w gSL σ sz [.int (iz x0)]) (gQi w gSL sz (post_X6_isRule x0 σ)) 0 0 (gA w gSL.length sz) := by
  have hv : V_X6_isRule x0 σ (post_X6_isRule x0 σ) := v_X6_isRule x0 σ hp
  refine g_met (by decide) [.int (iz x0)] (Nat.le_of_ble_eq_true rfl) ?_
  intro p e s m below meth c ls hz C0 hl G
  obtain ⟨hx, hb, hr, hml, hown, hts, hlk, hNw, hA⟩ := id C0
  have hown : s.vm.findClass RX6 = some m.cls := hown
  have hl : lv_has ls 1 [(0, .int (iz x0))] := hl
  refine lv_iload_n hx hb dX6_isRule_0 rfl (lv_at hl 0 rfl) ?_
  obtain ⟨i1, hv⟩ := hv
  refine g_if_lt (tgt := 14) hx hb i1 dX6_isRule_1 (by decide) (fun c2 => ?_) (fun c2 => ?_)
  · have hv := hv.1 c2
    refine lv_iconst (v := iz 0) hx hb dX6_isRule_14 rfl ?_
    exact g_zret hx hb hr hlk hz G (Or.inl rfl) hv dX6_isRule_15
  · have hv := hv.2 c2
    refine lv_iload_n hx hb dX6_isRule_4 rfl (lv_at hl 0 rfl) ?_
    refine lv_bipush (v := iz 6) hx hb dX6_isRule_5 (by decide +kernel) ?_
    refine g_icmp_ge (tgt := 14) hx hb i1 ⟨by decide, by decide⟩ dX6_isRule_7 (by decide) (fun c3 => ?_) (fun c3 => ?_)
    · have hv := hv.1 c3
      refine lv_iconst (v := iz 0) hx hb dX6_isRule_14 rfl ?_
      exact g_zret hx hb hr hlk hz G (Or.inl rfl) hv dX6_isRule_15
    · have hv := hv.2 c3
      refine lv_iconst (v := iz 1) hx hb dX6_isRule_10 rfl ?_
      refine lv_goto (tgt := 15) hx hb dX6_isRule_11 (by decide) ?_
      exact g_zret hx hb hr hlk hz G (Or.inr rfl) hv dX6_isRule_15
abbrev rm_X6_isReference : Room := ({ frames := 0, cells := 0, slots := 0, locals := 0 } : Room)
theorem hd_X6_isReference : yX6_isReference.cls ≠ "java/lang/invoke/MethodHandle" ∧ yX6_isReference.cls ≠ "java/lang/invoke/VarHandle" ∧ (parseMethodDescriptor yX6_isReference.desc).map (fun d => d.parameters.length) = some 1 := ⟨by decide +kernel, by decide +kernel, by decide +kernel⟩
set_option maxHeartbeats 4000000 in
set_option maxRecDepth 100000 in
theorem c_X6_isReference (l : Launch) (w : GW) (σ : St) (sz : Nat) (x0 : Int) (hp : pre_X6_isReference x0 σ) : Met l yX6_isReference (Cond.code yX6_isReference cX6_isReference 1 (some .boolean) :: wsL_law) rm_X6_isReference (gPc w gSL σ sz [.int (iz x0)]) (gQi w gSL sz (post_X6_isReference x0 σ)) 0 0 (gA w gSL.length sz) := by
  have hv : V_X6_isReference x0 σ (post_X6_isReference x0 σ) := v_X6_isReference x0 σ hp
  refine g_met (by decide) [.int (iz x0)] (Nat.le_of_ble_eq_true rfl) ?_
  intro p e s m below meth c ls hz C0 hl G
  obtain ⟨hx, hb, hr, hml, hown, hts, hlk, hNw, hA⟩ := id C0
  have hown : s.vm.findClass RX6 = some m.cls := hown
  have hl : lv_has ls 1 [(0, .int (iz x0))] := hl
  refine lv_iload_n hx hb dX6_isReference_0 rfl (lv_at hl 0 rfl) ?_
  refine lv_bipush (v := iz 65) hx hb dX6_isReference_1 (by decide +kernel) ?_
  obtain ⟨i1, hv⟩ := hv
  refine g_icmp_lt (tgt := 16) hx hb i1 ⟨by decide, by decide⟩ dX6_isReference_3 (by decide) (fun c2 => ?_) (fun c2 => ?_)
  · have hv := hv.1 c2
    refine lv_iconst (v := iz 0) hx hb dX6_isReference_16 rfl ?_
    exact g_zret hx hb hr hlk hz G (Or.inl rfl) hv dX6_isReference_17
  · have hv := hv.2 c2
    refine lv_iload_n hx hb dX6_isReference_6 rfl (lv_at hl 0 rfl) ?_
    refine lv_bipush (v := iz 70) hx hb dX6_isReference_7 (by decide +kernel) ?_
    refine g_icmp_gt (tgt := 16) hx hb i1 ⟨by decide, by decide⟩ dX6_isReference_9 (by decide) (fun c3 => ?_) (fun c3 => ?_)
    · have hv := hv.1 c3
      refine lv_iconst (v := iz 0) hx hb dX6_isReference_16 rfl ?_
      exact g_zret hx hb hr hlk hz G (Or.inl rfl) hv dX6_isReference_17
    · have hv := hv.2 c3
      refine lv_iconst (v := iz 1) hx hb dX6_isReference_12 rfl ?_
      refine lv_goto (tgt := 17) hx hb dX6_isReference_13 (by decide) ?_
      exact g_zret hx hb hr hlk hz G (Or.inr rfl) hv dX6_isReference_17
abbrev rm_X6_canStartPattern : Room := ({ frames := 1, cells := 0, slots := 0, locals := 20 } : Room)
theorem hd_X6_canStartPattern : yX6_canStartPattern.cls ≠ "java/lang/invoke/MethodHandle" ∧ yX6_canStartPattern.cls ≠ "java/lang/invoke/VarHandle" ∧ (parseMethodDescriptor yX6_canStartPattern.desc).map (fun d => d.parameters.length) = some 1 := ⟨by decide +kernel, by decide +kernel, by decide +kernel⟩
set_option maxHeartbeats 4000000 in
set_option maxRecDepth 100000 in
theorem c_X6_canStartPattern (l : Launch) (w : GW) (σ : St) (sz : Nat) (x0 : Int) (hp : pre_X6_canStartPattern x0 σ) : Met l yX6_canStartPattern (Cond.code yX6_canStartPattern cX6_canStartPattern 1 (some .boolean) :: wsL_law) rm_X6_canStartPattern (gPc w gSL σ sz [.int (iz x0)]) (gQi w gSL sz (post_X6_canStartPattern x0 σ)) 0 0 (gA w gSL.length sz) := by
  have hv : V_X6_canStartPattern x0 σ (post_X6_canStartPattern x0 σ) := v_X6_canStartPattern x0 σ hp
  refine g_met (by decide) [.int (iz x0)] (Nat.le_of_ble_eq_true rfl) ?_
  intro p e s m below meth c ls hz C0 hl G
  obtain ⟨hx, hb, hr, hml, hown, hts, hlk, hNw, hA⟩ := id C0
  have hown : s.vm.findClass RX6 = some m.cls := hown
  have hl : lv_has ls 1 [(0, .int (iz x0))] := hl
  refine lv_iload_n hx hb dX6_canStartPattern_0 rfl (lv_at hl 0 rfl) ?_
  refine lv_bipush (v := iz 126) hx hb dX6_canStartPattern_1 (by decide +kernel) ?_
  obtain ⟨i1, hv⟩ := hv
  refine g_icmp_eq (tgt := 17) hx hb i1 ⟨by decide, by decide⟩ dX6_canStartPattern_3 (by decide) (fun c2 => ?_) (fun c2 => ?_)
  · have hv := hv.1 c2
    refine lv_iconst (v := iz 0) hx hb dX6_canStartPattern_17 rfl ?_
    exact g_zret hx hb hr hlk hz G (Or.inl rfl) hv dX6_canStartPattern_18
  · have hv := hv.2 c2
    refine lv_iload_n hx hb dX6_canStartPattern_6 rfl (lv_at hl 0 rfl) ?_
    obtain ⟨p3, hv⟩ := hv
    refine g_callSi (rest := []) hx hb hml hts hown hNw hA G [.int (iz x0)] (c_X6_isReference l w σ _ x0 p3) wm_270 wm_271 wm_2 wm_272 hd_X6_isReference ⟨rfl, rfl, Nat.le_of_ble_eq_true rfl, Nat.le_of_ble_eq_true rfl⟩ rfl hl.1 (Nat.le_of_ble_eq_true rfl) rfl dX6_canStartPattern_7 ⟨Nat.zero_le _, Nat.zero_le _⟩ (fun r6 s4 H locs h5 G => ?_)
    obtain ⟨er6, es4⟩ := h5
    rw [es4] at G
    have hv := hv r6 er6
    obtain ⟨i7, hv⟩ := hv
    refine g_if_ne (tgt := 17) hx hb i7 dX6_canStartPattern_10 (by decide) (fun c8 => ?_) (fun c8 => ?_)
    · have hv := hv.1 c8
      refine lv_iconst (v := iz 0) hx hb dX6_canStartPattern_17 rfl ?_
      exact g_zret hx hb hr hlk hz G (Or.inl rfl) hv dX6_canStartPattern_18
    · have hv := hv.2 c8
      refine lv_iconst (v := iz 1) hx hb dX6_canStartPattern_13 rfl ?_
      refine lv_goto (tgt := 18) hx hb dX6_canStartPattern_14 (by decide) ?_
      exact g_zret hx hb hr hlk hz G (Or.inr rfl) hv dX6_canStartPattern_18
abbrev rm_X5_setPattern : Room := ({ frames := 1, cells := 0, slots := 0, locals := 22 } : Room)
theorem hd_X5_setPattern : yX5_setPattern.cls = RX5 ∧ yX5_setPattern.cls ≠ "java/lang/invoke/MethodHandle" ∧ yX5_setPattern.cls ≠ "java/lang/invoke/VarHandle" ∧ (parseMethodDescriptor yX5_setPattern.desc).map (fun d => d.parameters.length) = some 3 := ⟨rfl, by decide +kernel, by decide +kernel, by decide +kernel⟩
set_option maxHeartbeats 4000000 in
set_option maxRecDepth 100000 in
theorem lw_X5_setPattern_12 {p : Program} {l : Launch} {e : Env} {s : State} {m : MethodId} {args : Array Value} {below : List Frame} {meth : Method} {c : Code} {w : GW} {sz : Nat} (hz : s.heap.size = sz) (C0 : gC p s m args meth c cX5_setPattern none 5 yX5_setPattern.cls (gA w gSL.length sz)) (Q : St → Prop) (y1 y3 : Int) : ∀ (n : Nat) (y4 : Int) (σ : St) (H : Heap) (locs : List Loc) (ls : Array Slot), L_X5_setPattern_12 Q y1 y3 n y4 σ → gS w gSL σ (gA w gSL.length sz) s s.heap H locs → lv_has ls 5 [(0, .ref (gad w 1)), (1, .int (iz y1)), (2, .ref (gad w 48)), (3, .int (iz y3)), (4, .int (iz y4))] → W p l e rm_X5_setPattern s m args below meth c H locs 0 0 (MQ below (gQv w gSL sz Q) args s 0 0 (gA w gSL.length sz)) (F0 m 12 ls []) := by
  obtain ⟨hx, hb, hr, hml, hown, hts, hlk, hNw, hA⟩ := id C0
  have hown : s.vm.findClass RX5 = some m.cls := hown
  intro n
  induction n with
  | zero => intro y4 σ H locs ls hv; exact hv.elim
  | succ n ih =>
    intro y4 σ H locs ls hv G hl
    refine lv_iload hx hb dX5_setPattern_12 (lv_at hl 4 rfl) ?_
    refine lv_iload_n hx hb dX5_setPattern_14 rfl (lv_at hl 3 rfl) ?_
    obtain ⟨i4, hv⟩ := hv
    obtain ⟨i5, hv⟩ := hv
    refine g_icmp_ge (tgt := 44) hx hb i4 i5 dX5_setPattern_15 (by decide) (fun c6 => ?_) (fun c6 => ?_)
    · have hv := hv.1 c6
      exact g_vret hx hb hr hlk hz G hv dX5_setPattern_44
    · have hv := hv.2 c6
      refine lv_aload_n hx hb dX5_setPattern_18 rfl (lv_at hl 0 rfl) ?_
      refine g_getR hx hb hts hown 2 6 inlX5 G sh_1 rfl (by decide) rfl wm_42 dX5_setPattern_19 ?_
      refine lv_iload_n hx hb dX5_setPattern_22 rfl (lv_at hl 1 rfl) ?_
      refine lv_bipush (v := iz 8) hx hb dX5_setPattern_23 (by decide +kernel) ?_
      refine g_imul hx hb dX5_setPattern_25 ?_
      refine lv_iload hx hb dX5_setPattern_26 (lv_at hl 4 rfl) ?_
      refine g_iadd hx hb dX5_setPattern_28 ?_
      refine lv_aload_n hx hb dX5_setPattern_29 rfl (lv_at hl 2 rfl) ?_
      refine lv_iload hx hb dX5_setPattern_30 (lv_at hl 4 rfl) ?_
      obtain ⟨p7, hv⟩ := hv
      refine g_callVi (rest := [.int (iz ((y1 * 8) + y4)), .ref (gad w 6)]) hx hb hml hts hown hNw hA G [.int (iz y4)] (c_X4_get l w σ _ 48 8 ⟨sh_48, sh_49⟩ y4 p7) sh_48 rfl wm_170 wm_134 wm_135 wm_22 wm_136 hd_X4_get ⟨rfl, rfl, Nat.le_of_ble_eq_true rfl, Nat.le_of_ble_eq_true rfl⟩ rfl hl.1 (Nat.le_of_ble_eq_true rfl) rfl dX5_setPattern_32 ⟨Nat.zero_le _, Nat.zero_le _⟩ (fun r10 s8 H locs h9 G => ?_)
      obtain ⟨er10, es8⟩ := h9
      rw [es8] at G
      have hv := hv r10 er10
      obtain ⟨p11, hv⟩ := hv
      refine g_callVv (rest := []) hx hb hml hts hown hNw hA G [.int (iz ((y1 * 8) + y4)), .int (iz r10)] (c_X4_set l w σ _ 6 48 ⟨sh_6, sh_7⟩ ((y1 * 8) + y4) r10 p11) sh_6 rfl wm_171 wm_138 wm_139 wm_22 wm_140 hd_X4_set ⟨rfl, rfl, Nat.le_of_ble_eq_true rfl, Nat.le_of_ble_eq_true rfl⟩ rfl hl.1 (Nat.le_of_ble_eq_true rfl) rfl dX5_setPattern_35 ⟨Nat.zero_le _, Nat.zero_le _⟩ (fun s12 H locs h13 G => ?_)
      have hv := hv s12 h13
      refine g_iinc (k := 4) (x := y4) (n := 1) (lv' := [(4, .int (iz (y4 + 1))), (0, .ref (gad w 1)), (1, .int (iz y1)), (2, .ref (gad w 48)), (3, .int (iz y3))]) hx hb dX5_setPattern_38 hl rfl (by decide) rfl (fun ls hl => ?_)
      refine lv_goto (tgt := 12) hx hb dX5_setPattern_41 (by decide) ?_
      exact ih _ _ _ _ _ hv G (lv_sub hl [1, 2, 3, 4, 0] rfl)
set_option maxHeartbeats 4000000 in
set_option maxRecDepth 100000 in
theorem c_X5_setPattern (l : Launch) (w : GW) (σ : St) (sz : Nat) (x1 x3 : Int) (hp : pre_X5_setPattern x1 x3 σ) : Met l yX5_setPattern (Cond.code yX5_setPattern cX5_setPattern 5 none :: wsL_law) rm_X5_setPattern (gPc w gSL σ sz [.ref (gad w 1), .int (iz x1), .ref (gad w 48), .int (iz x3)]) (gQv w gSL sz (post_X5_setPattern x1 x3 σ)) 0 0 (gA w gSL.length sz) := by
  have hv : V_X5_setPattern x1 x3 σ (post_X5_setPattern x1 x3 σ) := v_X5_setPattern x1 x3 σ hp
  refine g_met (by decide) [.ref (gad w 1), .int (iz x1), .ref (gad w 48), .int (iz x3)] (Nat.le_of_ble_eq_true rfl) ?_
  intro p e s m below meth c ls hz C0 hl G
  obtain ⟨hx, hb, hr, hml, hown, hts, hlk, hNw, hA⟩ := id C0
  have hown : s.vm.findClass RX5 = some m.cls := hown
  have hl : lv_has ls 5 [(0, .ref (gad w 1)), (1, .int (iz x1)), (2, .ref (gad w 48)), (3, .int (iz x3))] := hl
  refine lv_aload_n hx hb dX5_setPattern_0 rfl (lv_at hl 0 rfl) ?_
  refine g_getR hx hb hts hown 1 4 inlX5 G sh_1 rfl (by decide) rfl wm_41 dX5_setPattern_1 ?_
  refine lv_iload_n hx hb dX5_setPattern_4 rfl (lv_at hl 1 rfl) ?_
  refine lv_iload_n hx hb dX5_setPattern_5 rfl (lv_at hl 3 rfl) ?_
  obtain ⟨p1, hv⟩ := hv
  refine g_callVv (rest := []) hx hb hml hts hown hNw hA G [.int (iz x1), .int (iz x3)] (c_X4_set l w σ _ 4 6 ⟨sh_4, sh_5⟩ x1 x3 p1) sh_4 rfl wm_171 wm_138 wm_139 wm_22 wm_140 hd_X4_set ⟨rfl, rfl, Nat.le_of_ble_eq_true rfl, Nat.le_of_ble_eq_true rfl⟩ rfl hl.1 (Nat.le_of_ble_eq_true rfl) rfl dX5_setPattern_6 ⟨Nat.zero_le _, Nat.zero_le _⟩ (fun s2 H locs h3 G => ?_)
  have hv := hv s2 h3
  refine lv_iconst (v := iz 0) hx hb dX5_setPattern_9 rfl ?_
  refine lv_istore (lv' := [(4, .int (iz 0)), (0, .ref (gad w 1)), (1, .int (iz x1)), (2, .ref (gad w 48)), (3, .int (iz x3))]) hx hb dX5_setPattern_10 hl (by decide) rfl (fun ls hl => ?_)
  obtain ⟨n_, hv⟩ := hv
  exact lw_X5_setPattern_12 (l := l) (p := p) (e := e) hz C0 _ x1 x3 n_ _ _ _ _ _ hv G (lv_sub hl [1, 2, 3, 4, 0] rfl)
