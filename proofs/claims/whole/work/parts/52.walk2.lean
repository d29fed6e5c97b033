abbrev rm_X2_update : Room := ({ frames := 4, cells := 0, slots := 0, locals := 94 } : Room)
theorem hd_X2_update : yX2_update.cls = RX2 ∧ yX2_update.cls ≠ "java/lang/invoke/MethodHandle" ∧ yX2_update.cls ≠ "java/lang/invoke/VarHandle" ∧ (parseMethodDescriptor yX2_update.desc).map (fun d => d.parameters.length) = some 0 := ⟨rfl, by decide +kernel, by decide +kernel, by decide +kernel⟩
set_option maxHeartbeats 4000000 in
set_option maxRecDepth 100000 in
theorem lw_X2_update_24 {p : Program} {l : Launch} {e : Env} {s : State} {m : MethodId} {args : Array Value} {below : List Frame} {meth : Method} {c : Code} {w : GW} {sz : Nat} (hz : s.heap.size = sz) (C0 : gC p s m args meth c cX2_update none 3 yX2_update.cls (gA w gSL.length sz)) (Q : St → Prop) (K : St → Prop) (y1 : Int) (hK : ∀ (σ : St) (H : Heap) (locs : List Loc) (ls : Array Slot), K  σ → gS w gSL σ (gA w gSL.length sz) s s.heap H locs → lv_has ls 3 [(0, .ref (gad w 52)), (1, .int (iz y1))] → W p l e rm_X2_update s m args below meth c H locs 0 0 (MQ below (gQv w gSL sz Q) args s 0 0 (gA w gSL.length sz)) (F0 m 42 ls [])) : ∀ (n : Nat) (y2 : Int) (σ : St) (H : Heap) (locs : List Loc) (ls : Array Slot), L_X2_update_24 Q K y1 n y2 σ → gS w gSL σ (gA w gSL.length sz) s s.heap H locs → lv_has ls 3 [(0, .ref (gad w 52)), (1, .int (iz y1)), (2, .int (iz y2))] → W p l e rm_X2_update s m args below meth c H locs 0 0 (MQ below (gQv w gSL sz Q) args s 0 0 (gA w gSL.length sz)) (F0 m 24 ls []) := by
  obtain ⟨hx, hb, hr, hml, hown, hts, hlk, hNw, hA⟩ := id C0
  have hown : s.vm.findClass RX2 = some m.cls := hown
  intro n
  induction n with
  | zero => intro y2 σ H locs ls hv; exact hv.elim
  | succ n ih =>
    intro y2 σ H locs ls hv G hl
    refine lv_iload_n hx hb dX2_update_24 rfl (lv_at hl 2 rfl) ?_
    refine lv_bipush (v := iz 6) hx hb dX2_update_25 (by decide +kernel) ?_
    obtain ⟨i13, hv⟩ := hv
    refine g_icmp_ge (tgt := 42) hx hb i13 ⟨by decide, by decide⟩ dX2_update_27 (by decide) (fun c14 => ?_) (fun c14 => ?_)
    · have hv := hv.1 c14
      exact hK  _ _ _ _ hv G (lv_sub hl [0, 1] rfl)
    · have hv := hv.2 c14
      refine lv_aload_n hx hb dX2_update_30 rfl (lv_at hl 0 rfl) ?_
      refine lv_iload_n hx hb dX2_update_31 rfl (lv_at hl 2 rfl) ?_
      refine lv_iload_n hx hb dX2_update_32 rfl (lv_at hl 1 rfl) ?_
      obtain ⟨p15, hv⟩ := hv
      refine g_callVv (rest := []) hx hb hml hts hown hNw hA G [.int (iz y2), .int (iz y1)] (c_X2_matchRests l w σ _ y2 y1 p15) sh_52 rfl wm_376 wm_377 wm_378 wm_27 wm_379 hd_X2_matchRests ⟨rfl, rfl, Nat.le_of_ble_eq_true rfl, Nat.le_of_ble_eq_true rfl⟩ rfl hl.1 (Nat.le_of_ble_eq_true rfl) rfl dX2_update_33 ⟨Nat.zero_le _, Nat.zero_le _⟩ (fun s16 H locs h17 G => ?_)
      have hv := hv s16 h17
      refine g_iinc (k := 2) (x := y2) (n := 1) (lv' := [(2, .int (iz (y2 + 1))), (0, .ref (gad w 52)), (1, .int (iz y1))]) hx hb dX2_update_36 hl rfl (by decide) rfl (fun ls hl => ?_)
      refine lv_goto (tgt := 24) hx hb dX2_update_39 (by decide) ?_
      exact ih _ _ _ _ _ hv G (lv_sub hl [1, 2, 0] rfl)
set_option maxHeartbeats 4000000 in
set_option maxRecDepth 100000 in
theorem lw_X2_update_8 {p : Program} {l : Launch} {e : Env} {s : State} {m : MethodId} {args : Array Value} {below : List Frame} {meth : Method} {c : Code} {w : GW} {sz : Nat} (hz : s.heap.size = sz) (C0 : gC p s m args meth c cX2_update none 3 yX2_update.cls (gA w gSL.length sz)) (Q : St → Prop) : ∀ (n : Nat) (y1 : Int) (σ : St) (H : Heap) (locs : List Loc) (ls : Array Slot), L_X2_update_8 Q n y1 σ → gS w gSL σ (gA w gSL.length sz) s s.heap H locs → lv_has ls 3 [(0, .ref (gad w 52)), (1, .int (iz y1))] → W p l e rm_X2_update s m args below meth c H locs 0 0 (MQ below (gQv w gSL sz Q) args s 0 0 (gA w gSL.length sz)) (F0 m 8 ls []) := by
  obtain ⟨hx, hb, hr, hml, hown, hts, hlk, hNw, hA⟩ := id C0
  have hown : s.vm.findClass RX2 = some m.cls := hown
  intro n
  induction n with
  | zero => intro y1 σ H locs ls hv; exact hv.elim
  | succ n ih =>
    intro y1 σ H locs ls hv G hl
    refine lv_iload_n hx hb dX2_update_8 rfl (lv_at hl 1 rfl) ?_
    obtain ⟨i5, hv⟩ := hv
    refine g_if_lt (tgt := 48) hx hb i5 dX2_update_9 (by decide) (fun c6 => ?_) (fun c6 => ?_)
    · have hv := hv.1 c6
      exact g_vret hx hb hr hlk hz G hv dX2_update_48
    · have hv := hv.2 c6
      refine lv_aload_n hx hb dX2_update_12 rfl (lv_at hl 0 rfl) ?_
      refine lv_iload_n hx hb dX2_update_13 rfl (lv_at hl 1 rfl) ?_
      obtain ⟨p7, hv⟩ := hv
      refine g_callVv (rest := []) hx hb hml hts hown hNw hA G [.int (iz y1)] (c_X2_markRuns l w σ _ y1 p7) sh_52 rfl wm_344 wm_345 wm_346 wm_27 wm_347 hd_X2_markRuns ⟨rfl, rfl, Nat.le_of_ble_eq_true rfl, Nat.le_of_ble_eq_true rfl⟩ rfl hl.1 (Nat.le_of_ble_eq_true rfl) rfl dX2_update_14 ⟨Nat.zero_le _, Nat.zero_le _⟩ (fun s8 H locs h9 G => ?_)
      have hv := hv s8 h9
      refine lv_aload_n hx hb dX2_update_17 rfl (lv_at hl 0 rfl) ?_
      refine lv_iload_n hx hb dX2_update_18 rfl (lv_at hl 1 rfl) ?_
      obtain ⟨p10, hv⟩ := hv
      refine g_callVv (rest := []) hx hb hml hts hown hNw hA G [.int (iz y1)] (c_X2_matchIslands l w s8 _ y1 p10) sh_52 rfl wm_358 wm_359 wm_360 wm_27 wm_361 hd_X2_matchIslands ⟨rfl, rfl, Nat.le_of_ble_eq_true rfl, Nat.le_of_ble_eq_true rfl⟩ rfl hl.1 (Nat.le_of_ble_eq_true rfl) rfl dX2_update_19 ⟨Nat.zero_le _, Nat.zero_le _⟩ (fun s11 H locs h12 G => ?_)
      have hv := hv s11 h12
      refine lv_iconst (v := iz 0) hx hb dX2_update_22 rfl ?_
      refine lv_istore_n (lv' := [(2, .int (iz 0)), (0, .ref (gad w 52)), (1, .int (iz y1))]) hx hb dX2_update_23 rfl hl (by decide) rfl (fun ls hl => ?_)
      obtain ⟨n_, hv⟩ := hv
      refine lw_X2_update_24 (l := l) (p := p) (e := e) hz C0 Q _ y1 (fun  s18 H locs ls hv G hl => ?_) n_ _ _ _ _ _ hv G (lv_sub hl [1, 2, 0] rfl)
      refine g_iinc (k := 1) (x := y1) (n := (-1)) (lv' := [(1, .int (iz (y1 + (-1)))), (0, .ref (gad w 52))]) hx hb dX2_update_42 hl rfl (by decide) rfl (fun ls hl => ?_)
      refine lv_goto (tgt := 8) hx hb dX2_update_45 (by decide) ?_
      exact ih _ _ _ _ _ hv G (lv_sub hl [1, 0] rfl)
set_option maxHeartbeats 4000000 in
set_option maxRecDepth 100000 in
theorem c_X2_update (l : Launch) (w : GW) (σ : St) (sz : Nat) (hp : pre_X2_update σ) : Met l yX2_update (Cond.code yX2_update cX2_update 3 none :: wsL_law) rm_X2_update (gPc w gSL σ sz [.ref (gad w 52)]) (gQv w gSL sz (post_X2_update σ)) 0 0 (gA w gSL.length sz) := by
  have hv : V_X2_update σ (post_X2_update σ) := v_X2_update σ hp
  refine g_met (by decide) [.ref (gad w 52)] (Nat.le_of_ble_eq_true rfl) ?_
  intro p e s m below meth c ls hz C0 hl G
  obtain ⟨hx, hb, hr, hml, hown, hts, hlk, hNw, hA⟩ := id C0
  have hown : s.vm.findClass RX2 = some m.cls := hown
  have hl : lv_has ls 3 [(0, .ref (gad w 52))] := hl
  refine lv_aload_n hx hb dX2_update_0 rfl (lv_at hl 0 rfl) ?_
  refine g_getR hx hb hts hown 0 1 inlX2 G sh_52 rfl (by decide) rfl wm_76 dX2_update_1 ?_
  obtain ⟨p1, hv⟩ := hv
  refine g_callVi (rest := []) hx hb hml hts hown hNw hA G [] (c_X5_textSize l w σ _ p1) sh_1 rfl wm_343 wm_123 wm_124 wm_14 wm_125 hd_X5_textSize ⟨rfl, rfl, Nat.le_of_ble_eq_true rfl, Nat.le_of_ble_eq_true rfl⟩ rfl hl.1 (Nat.le_of_ble_eq_true rfl) rfl dX2_update_4 ⟨Nat.zero_le _, Nat.zero_le _⟩ (fun r4 s2 H locs h3 G => ?_)
  obtain ⟨er4, es2⟩ := h3
  rw [es2] at G
  have hv := hv r4 er4
  refine lv_istore_n (lv' := [(1, .int (iz r4)), (0, .ref (gad w 52))]) hx hb dX2_update_7 rfl hl (by decide) rfl (fun ls hl => ?_)
  obtain ⟨n_, hv⟩ := hv
  exact lw_X2_update_8 (l := l) (p := p) (e := e) hz C0 _ n_ _ _ _ _ _ hv G (lv_sub hl [1, 0] rfl)
abbrev rm_X4_fill : Room := ({ frames := 0, cells := 0, slots := 0, locals := 0 } : Room)
theorem hd_X4_fill : yX4_fill.cls = RX4 ∧ yX4_fill.cls ≠ "java/lang/invoke/MethodHandle" ∧ yX4_fill.cls ≠ "java/lang/invoke/VarHandle" ∧ (parseMethodDescriptor yX4_fill.desc).map (fun d => d.parameters.length) = some 1 := ⟨rfl, by decide +kernel, by decide +kernel, by decide +kernel⟩
set_option maxHeartbeats 4000000 in
set_option maxRecDepth 100000 in
theorem lw_X4_fill_2 {p : Program} {l : Launch} {e : Env} {s : State} {m : MethodId} {args : Array Value} {below : List Frame} {meth : Method} {c : Code} {w : GW} {sz : Nat} (k nn : Nat) (hik : isRow k nn) (hz : s.heap.size = sz) (C0 : gC p s m args meth c cX4_fill none 3 yX4_fill.cls (gA w gSL.length sz)) (Q : St → Prop) (y1 : Int) : ∀ (n : Nat) (y2 : Int) (σ : St) (H : Heap) (locs : List Loc) (ls : Array Slot), L_X4_fill_2 k nn Q y1 n y2 σ → gS w gSL σ (gA w gSL.length sz) s s.heap H locs → lv_has ls 3 [(0, .ref (gad w k)), (1, .int (iz y1)), (2, .int (iz y2))] → W p l e rm_X4_fill s m args below meth c H locs 0 0 (MQ below (gQv w gSL sz Q) args s 0 0 (gA w gSL.length sz)) (F0 m 2 ls []) := by
  obtain ⟨hx, hb, hr, hml, hown, hts, hlk, hNw, hA⟩ := id C0
  have hown : s.vm.findClass RX4 = some m.cls := hown
  intro n
  induction n with
  | zero => intro y2 σ H locs ls hv; exact hv.elim
  | succ n ih =>
    intro y2 σ H locs ls hv G hl
    refine lv_iload_n hx hb dX4_fill_2 rfl (lv_at hl 2 rfl) ?_
    refine lv_aload_n hx hb dX4_fill_3 rfl (lv_at hl 0 rfl) ?_
    refine g_getR hx hb hts hown 0 (k+1) inlX4 G hik.1 rfl (by decide) rfl wm_50 dX4_fill_4 ?_
    refine g_alen hx hb G hik.2 dX4_fill_7 ?_
    obtain ⟨i1, hv⟩ := hv
    obtain ⟨i2, hv⟩ := hv
    refine g_icmp_ge (tgt := 24) hx hb i1 i2 dX4_fill_8 (by decide) (fun c3 => ?_) (fun c3 => ?_)
    · have hv := hv.1 c3
      exact g_vret hx hb hr hlk hz G hv dX4_fill_24
    · have hv := hv.2 c3
      refine lv_aload_n hx hb dX4_fill_11 rfl (lv_at hl 0 rfl) ?_
      refine g_getR hx hb hts hown 0 (k+1) inlX4 G hik.1 rfl (by decide) rfl wm_50 dX4_fill_12 ?_
      refine lv_iload_n hx hb dX4_fill_15 rfl (lv_at hl 2 rfl) ?_
      refine lv_iload_n hx hb dX4_fill_16 rfl (lv_at hl 1 rfl) ?_
      obtain ⟨o4, hv⟩ := hv
      refine g_ast hx hb G hik.2 o4.1 o4.2 (isRow_lt hik) dX4_fill_17 (fun s5 es5 H locs G => ?_)
      have hv := hv s5 es5
      refine g_iinc (k := 2) (x := y2) (n := 1) (lv' := [(2, .int (iz (y2 + 1))), (0, .ref (gad w k)), (1, .int (iz y1))]) hx hb dX4_fill_18 hl rfl (by decide) rfl (fun ls hl => ?_)
      refine lv_goto (tgt := 2) hx hb dX4_fill_21 (by decide) ?_
      exact ih _ _ _ _ _ hv G (lv_sub hl [1, 2, 0] rfl)
set_option maxHeartbeats 4000000 in
set_option maxRecDepth 100000 in
theorem c_X4_fill (l : Launch) (w : GW) (σ : St) (sz : Nat) (k nn : Nat) (hik : isRow k nn) (x1 : Int) (hp : pre_X4_fill k nn x1 σ) : Met l yX4_fill (Cond.code yX4_fill cX4_fill 3 none :: wsL_law) rm_X4_fill (gPc w gSL σ sz [.ref (gad w k), .int (iz x1)]) (gQv w gSL sz (post_X4_fill k nn x1 σ)) 0 0 (gA w gSL.length sz) := by
  have hv : V_X4_fill k nn x1 σ (post_X4_fill k nn x1 σ) := v_X4_fill k nn hik x1 σ hp
  refine g_met (by decide) [.ref (gad w k), .int (iz x1)] (Nat.le_of_ble_eq_true rfl) ?_
  intro p e s m below meth c ls hz C0 hl G
  obtain ⟨hx, hb, hr, hml, hown, hts, hlk, hNw, hA⟩ := id C0
  have hown : s.vm.findClass RX4 = some m.cls := hown
  have hl : lv_has ls 3 [(0, .ref (gad w k)), (1, .int (iz x1))] := hl
  refine lv_iconst (v := iz 0) hx hb dX4_fill_0 rfl ?_
  refine lv_istore_n (lv' := [(2, .int (iz 0)), (0, .ref (gad w k)), (1, .int (iz x1))]) hx hb dX4_fill_1 rfl hl (by decide) rfl (fun ls hl => ?_)
  obtain ⟨n_, hv⟩ := hv
  exact lw_X4_fill_2 (l := l) (p := p) (e := e) k nn hik hz C0 _ x1 n_ _ _ _ _ _ hv G (lv_sub hl [1, 2, 0] rfl)
abbrev rm_X3_clear : Room := ({ frames := 1, cells := 0, slots := 0, locals := 22 } : Room)
theorem hd_X3_clear : yX3_clear.cls = RX3 ∧ yX3_clear.cls ≠ "java/lang/invoke/MethodHandle" ∧ yX3_clear.cls ≠ "java/lang/invoke/VarHandle" ∧ (parseMethodDescriptor yX3_clear.desc).map (fun d => d.parameters.length) = some 0 := ⟨rfl, by decide +kernel, by decide +kernel, by decide +kernel⟩
set_option maxHeartbeats 4000000 in
set_option maxRecDepth 100000 in
theorem c_X3_clear (l : Launch) (w : GW) (σ : St) (sz : Nat) (hp : pre_X3_clear σ) : Met l yX3_clear (Cond.code yX3_clear cX3_clear 1 none :: wsL_law) rm_X3_clear (gPc w gSL σ sz [.ref (gad w 61)]) (gQv w gSL sz (post_X3_clear σ)) 0 0 (gA w gSL.length sz) := by
  have hv : V_X3_clear σ (post_X3_clear σ) := v_X3_clear σ hp
  refine g_met (by decide) [.ref (gad w 61)] (Nat.le_of_ble_eq_true rfl) ?_
  intro p e s m below meth c ls hz C0 hl G
  obtain ⟨hx, hb, hr, hml, hown, hts, hlk, hNw, hA⟩ := id C0
  have hown : s.vm.findClass RX3 = some m.cls := hown
  have hl : lv_has ls 1 [(0, .ref (gad w 61))] := hl
  refine lv_aload_n hx hb dX3_clear_0 rfl (lv_at hl 0 rfl) ?_
  refine g_getR hx hb hts hown 9 76 inlX3 G sh_61 rfl (by decide) rfl wm_94 dX3_clear_1 ?_
  refine lv_iconst (v := iz (-1)) hx hb dX3_clear_4 rfl ?_
  obtain ⟨p1, hv⟩ := hv
  refine g_callVv (rest := []) hx hb hml hts hown hNw hA G [.int (iz (-1))] (c_X4_fill l w σ _ 76 100 ⟨sh_76, sh_77⟩ (-1) p1) sh_76 rfl wm_393 wm_52 wm_53 wm_22 wm_54 hd_X4_fill ⟨rfl, rfl, Nat.le_of_ble_eq_true rfl, Nat.le_of_ble_eq_true rfl⟩ rfl hl.1 (Nat.le_of_ble_eq_true rfl) rfl dX3_clear_5 ⟨Nat.zero_le _, Nat.zero_le _⟩ (fun s2 H locs h3 G => ?_)
  have hv := hv s2 h3
  refine lv_aload_n hx hb dX3_clear_8 rfl (lv_at hl 0 rfl) ?_
  refine lv_iconst (v := iz 0) hx hb dX3_clear_9 rfl ?_
  refine g_putI hx hb hts hown 11 inlX3 tyX3 tyX3_ok nmX3 G sh_61 rfl (by decide) rfl wm_96 rfl rfl rfl dX3_clear_10 (fun s4 es4 H locs G => ?_)
  have hv := hv s4 es4
  refine lv_aload_n hx hb dX3_clear_13 rfl (lv_at hl 0 rfl) ?_
  refine lv_iconst (v := iz 0) hx hb dX3_clear_14 rfl ?_
  refine g_putI hx hb hts hown 12 inlX3 tyX3 tyX3_ok nmX3 G sh_61 rfl (by decide) rfl wm_97 rfl rfl rfl dX3_clear_15 (fun s5 es5 H locs G => ?_)
  have hv := hv s5 es5
  refine lv_aload_n hx hb dX3_clear_18 rfl (lv_at hl 0 rfl) ?_
  refine lv_iconst (v := iz 0) hx hb dX3_clear_19 rfl ?_
  refine g_putI hx hb hts hown 13 inlX3 tyX3 tyX3_ok nmX3 G sh_61 rfl (by decide) rfl wm_98 rfl rfl rfl dX3_clear_20 (fun s6 es6 H locs G => ?_)
  have hv := hv s6 es6
  refine lv_aload_n hx hb dX3_clear_23 rfl (lv_at hl 0 rfl) ?_
  refine lv_iconst (v := iz 0) hx hb dX3_clear_24 rfl ?_
  refine g_putI hx hb hts hown 14 inlX3 tyX3 tyX3_ok nmX3 G sh_61 rfl (by decide) rfl wm_99 rfl rfl rfl dX3_clear_25 (fun s7 es7 H locs G => ?_)
  have hv := hv s7 es7
  refine lv_aload_n hx hb dX3_clear_28 rfl (lv_at hl 0 rfl) ?_
  refine lv_iconst (v := iz 0) hx hb dX3_clear_29 rfl ?_
  refine g_putI hx hb hts hown 15 inlX3 tyX3 tyX3_ok nmX3 G sh_61 rfl (by decide) rfl wm_100 rfl rfl rfl dX3_clear_30 (fun s8 es8 H locs G => ?_)
  have hv := hv s8 es8
  exact g_vret hx hb hr hlk hz G hv dX3_clear_33
abbrev rm_X2_firstRule : Room := ({ frames := 1, cells := 0, slots := 0, locals := 21 } : Room)
theorem hd_X2_firstRule : yX2_firstRule.cls = RX2 ∧ yX2_firstRule.cls ≠ "java/lang/invoke/MethodHandle" ∧ yX2_firstRule.cls ≠ "java/lang/invoke/VarHandle" ∧ (parseMethodDescriptor yX2_firstRule.desc).map (fun d => d.parameters.length) = some 1 := ⟨rfl, by decide +kernel, by decide +kernel, by decide +kernel⟩
set_option maxHeartbeats 4000000 in
set_option maxRecDepth 100000 in
theorem c_X2_firstRule (l : Launch) (w : GW) (σ : St) (sz : Nat) (x1 : Int) (hp : pre_X2_firstRule x1 σ) : Met l yX2_firstRule (Cond.code yX2_firstRule cX2_firstRule 2 (some .int) :: wsL_law) rm_X2_firstRule (gPc w gSL σ sz [.ref (gad w 52), .int (iz x1)]) (gQi w gSL sz (post_X2_firstRule x1 σ)) 0 0 (gA w gSL.length sz) := by
  have hv : V_X2_firstRule x1 σ (post_X2_firstRule x1 σ) := v_X2_firstRule x1 σ hp
  refine g_met (by decide) [.ref (gad w 52), .int (iz x1)] (Nat.le_of_ble_eq_true rfl) ?_
  intro p e s m below meth c ls hz C0 hl G
  obtain ⟨hx, hb, hr, hml, hown, hts, hlk, hNw, hA⟩ := id C0
  have hown : s.vm.findClass RX2 = some m.cls := hown
  have hl : lv_has ls 2 [(0, .ref (gad w 52)), (1, .int (iz x1))] := hl
  refine lv_aload_n hx hb dX2_firstRule_0 rfl (lv_at hl 0 rfl) ?_
  refine g_getR hx hb hts hown 3 57 inlX2 G sh_52 rfl (by decide) rfl wm_71 dX2_firstRule_1 ?_
  refine lv_iload_n hx hb dX2_firstRule_4 rfl (lv_at hl 1 rfl) ?_
  obtain ⟨p1, hv⟩ := hv
  refine g_callVi (rest := []) hx hb hml hts hown hNw hA G [.int (iz x1)] (c_X4_get l w σ _ 57 101 ⟨sh_57, sh_58⟩ x1 p1) sh_57 rfl wm_354 wm_134 wm_135 wm_22 wm_136 hd_X4_get ⟨rfl, rfl, Nat.le_of_ble_eq_true rfl, Nat.le_of_ble_eq_true rfl⟩ rfl hl.1 (Nat.le_of_ble_eq_true rfl) rfl dX2_firstRule_5 ⟨Nat.zero_le _, Nat.zero_le _⟩ (fun r4 s2 H locs h3 G => ?_)
  obtain ⟨er4, es2⟩ := h3
  rw [es2] at G
  have hv := hv r4 er4
  exact g_iret hx hb hr hlk hz G hv dX2_firstRule_8
abbrev rm_X3_announce : Room := ({ frames := 1, cells := 0, slots := 0, locals := 22 } : Room)
theorem hd_X3_announce : yX3_announce.cls = RX3 ∧ yX3_announce.cls ≠ "java/lang/invoke/MethodHandle" ∧ yX3_announce.cls ≠ "java/lang/invoke/VarHandle" ∧ (parseMethodDescriptor yX3_announce.desc).map (fun d => d.parameters.length) = some 3 := ⟨rfl, by decide +kernel, by decide +kernel, by decide +kernel⟩
set_option maxHeartbeats 4000000 in
set_option maxRecDepth 100000 in
theorem c_X3_announce (l : Launch) (w : GW) (σ : St) (sz : Nat) (x1 x2 x3 : Int) (hp : pre_X3_announce x1 x2 x3 σ) : Met l yX3_announce (Cond.code yX3_announce cX3_announce 4 none :: wsL_law) rm_X3_announce (gPc w gSL σ sz [.ref (gad w 61), .int (iz x1), .int (iz x2), .int (iz x3)]) (gQv w gSL sz (post_X3_announce x1 x2 x3 σ)) 0 0 (gA w gSL.length sz) := by
  have hv : V_X3_announce x1 x2 x3 σ (post_X3_announce x1 x2 x3 σ) := v_X3_announce x1 x2 x3 σ hp
  refine g_met (by decide) [.ref (gad w 61), .int (iz x1), .int (iz x2), .int (iz x3)] (Nat.le_of_ble_eq_true rfl) ?_
  intro p e s m below meth c ls hz C0 hl G
  obtain ⟨hx, hb, hr, hml, hown, hts, hlk, hNw, hA⟩ := id C0
  have hown : s.vm.findClass RX3 = some m.cls := hown
  have hl : lv_has ls 4 [(0, .ref (gad w 61)), (1, .int (iz x1)), (2, .int (iz x2)), (3, .int (iz x3))] := hl
  refine lv_aload_n hx hb dX3_announce_0 rfl (lv_at hl 0 rfl) ?_
  refine g_getR hx hb hts hown 9 76 inlX3 G sh_61 rfl (by decide) rfl wm_94 dX3_announce_1 ?_
  refine lv_iload_n hx hb dX3_announce_4 rfl (lv_at hl 1 rfl) ?_
  refine lv_iload_n hx hb dX3_announce_5 rfl (lv_at hl 2 rfl) ?_
  obtain ⟨p1, hv⟩ := hv
  refine g_callVv (rest := []) hx hb hml hts hown hNw hA G [.int (iz x1), .int (iz x2)] (c_X4_set l w σ _ 76 100 ⟨sh_76, sh_77⟩ x1 x2 p1) sh_76 rfl wm_410 wm_138 wm_139 wm_22 wm_140 hd_X4_set ⟨rfl, rfl, Nat.le_of_ble_eq_true rfl, Nat.le_of_ble_eq_true rfl⟩ rfl hl.1 (Nat.le_of_ble_eq_true rfl) rfl dX3_announce_6 ⟨Nat.zero_le _, Nat.zero_le _⟩ (fun s2 H locs h3 G => ?_)
  have hv := hv s2 h3
  refine lv_aload_n hx hb dX3_announce_9 rfl (lv_at hl 0 rfl) ?_
  refine g_getR hx hb hts hown 10 78 inlX3 G sh_61 rfl (by decide) rfl wm_95 dX3_announce_10 ?_
  refine lv_iload_n hx hb dX3_announce_13 rfl (lv_at hl 1 rfl) ?_
  refine lv_iload_n hx hb dX3_announce_14 rfl (lv_at hl 3 rfl) ?_
  obtain ⟨p4, hv⟩ := hv
  refine g_callVv (rest := []) hx hb hml hts hown hNw hA G [.int (iz x1), .int (iz x3)] (c_X4_set l w s2 _ 78 100 ⟨sh_78, sh_79⟩ x1 x3 p4) sh_78 rfl wm_410 wm_138 wm_139 wm_22 wm_140 hd_X4_set ⟨rfl, rfl, Nat.le_of_ble_eq_true rfl, Nat.le_of_ble_eq_true rfl⟩ rfl hl.1 (Nat.le_of_ble_eq_true rfl) rfl dX3_announce_15 ⟨Nat.zero_le _, Nat.zero_le _⟩ (fun s5 H locs h6 G => ?_)
  have hv := hv s5 h6
  exact g_vret hx hb hr hlk hz G hv dX3_announce_18
abbrev rm_X2_islandEnd : Room := ({ frames := 1, cells := 0, slots := 0, locals := 24 } : Room)
theorem hd_X2_islandEnd : yX2_islandEnd.cls = RX2 ∧ yX2_islandEnd.cls ≠ "java/lang/invoke/MethodHandle" ∧ yX2_islandEnd.cls ≠ "java/lang/invoke/VarHandle" ∧ (parseMethodDescriptor yX2_islandEnd.desc).map (fun d => d.parameters.length) = some 2 := ⟨rfl, by decide +kernel, by decide +kernel, by decide +kernel⟩
set_option maxHeartbeats 4000000 in
set_option maxRecDepth 100000 in
theorem c_X2_islandEnd (l : Launch) (w : GW) (σ : St) (sz : Nat) (x1 x2 : Int) (hp : pre_X2_islandEnd x1 x2 σ) : Met l yX2_islandEnd (Cond.code yX2_islandEnd cX2_islandEnd 3 (some .int) :: wsL_law) rm_X2_islandEnd (gPc w gSL σ sz [.ref (gad w 52), .int (iz x1), .int (iz x2)]) (gQi w gSL sz (post_X2_islandEnd x1 x2 σ)) 0 0 (gA w gSL.length sz) := by
  have hv : V_X2_islandEnd x1 x2 σ (post_X2_islandEnd x1 x2 σ) := v_X2_islandEnd x1 x2 σ hp
  refine g_met (by decide) [.ref (gad w 52), .int (iz x1), .int (iz x2)] (Nat.le_of_ble_eq_true rfl) ?_
  intro p e s m below meth c ls hz C0 hl G
  obtain ⟨hx, hb, hr, hml, hown, hts, hlk, hNw, hA⟩ := id C0
  have hown : s.vm.findClass RX2 = some m.cls := hown
  have hl : lv_has ls 3 [(0, .ref (gad w 52)), (1, .int (iz x1)), (2, .int (iz x2))] := hl
  refine lv_aload_n hx hb dX2_islandEnd_0 rfl (lv_at hl 0 rfl) ?_
  refine g_getR hx hb hts hown 4 59 inlX2 G sh_52 rfl (by decide) rfl wm_75 dX2_islandEnd_1 ?_
  refine lv_iload_n hx hb dX2_islandEnd_4 rfl (lv_at hl 1 rfl) ?_
  refine lv_iconst (v := iz 0) hx hb dX2_islandEnd_5 rfl ?_
  refine lv_iload_n hx hb dX2_islandEnd_6 rfl (lv_at hl 2 rfl) ?_
  obtain ⟨p1, hv⟩ := hv
  refine g_callVi (rest := []) hx hb hml hts hown hNw hA G [.int (iz x1), .int (iz 0), .int (iz x2)] (c_X0_get l w σ _ x1 0 x2 p1) sh_59 rfl wm_368 wm_369 wm_370 wm_74 wm_371 hd_X0_get ⟨rfl, rfl, Nat.le_of_ble_eq_true rfl, Nat.le_of_ble_eq_true rfl⟩ rfl hl.1 (Nat.le_of_ble_eq_true rfl) rfl dX2_islandEnd_7 ⟨Nat.zero_le _, Nat.zero_le _⟩ (fun r4 s2 H locs h3 G => ?_)
  obtain ⟨er4, es2⟩ := h3
  rw [es2] at G
  have hv := hv r4 er4
  exact g_iret hx hb hr hlk hz G hv dX2_islandEnd_10
abbrev rm_X3_takeTopLevel : Room := ({ frames := 2, cells := 0, slots := 0, locals := 46 } : Room)
theorem hd_X3_takeTopLevel : yX3_takeTopLevel.cls = RX3 ∧ yX3_takeTopLevel.cls ≠ "java/lang/invoke/MethodHandle" ∧ yX3_takeTopLevel.cls ≠ "java/lang/invoke/VarHandle" ∧ (parseMethodDescriptor yX3_takeTopLevel.desc).map (fun d => d.parameters.length) = some 1 := ⟨rfl, by decide +kernel, by decide +kernel, by decide +kernel⟩
set_option maxHeartbeats 4000000 in
set_option maxRecDepth 100000 in
theorem c_X3_takeTopLevel (l : Launch) (w : GW) (σ : St) (sz : Nat) (x1 : Int) (hp : pre_X3_takeTopLevel x1 σ) : Met l yX3_takeTopLevel (Cond.code yX3_takeTopLevel cX3_takeTopLevel 3 (some .int) :: wsL_law) rm_X3_takeTopLevel (gPc w gSL σ sz [.ref (gad w 61), .int (iz x1)]) (gQi w gSL sz (post_X3_takeTopLevel x1 σ)) 0 0 (gA w gSL.length sz) := by
  have hv : V_X3_takeTopLevel x1 σ (post_X3_takeTopLevel x1 σ) := v_X3_takeTopLevel x1 σ hp
  refine g_met (by decide) [.ref (gad w 61), .int (iz x1)] (Nat.le_of_ble_eq_true rfl) ?_
  intro p e s m below meth c ls hz C0 hl G
  obtain ⟨hx, hb, hr, hml, hown, hts, hlk, hNw, hA⟩ := id C0
  have hown : s.vm.findClass RX3 = some m.cls := hown
  have hl : lv_has ls 3 [(0, .ref (gad w 61)), (1, .int (iz x1))] := hl
  refine lv_aload_n hx hb dX3_takeTopLevel_0 rfl (lv_at hl 0 rfl) ?_
  refine g_getR hx hb hts hown 1 52 inlX3 G sh_61 rfl (by decide) rfl wm_102 dX3_takeTopLevel_1 ?_
  refine lv_iload_n hx hb dX3_takeTopLevel_4 rfl (lv_at hl 1 rfl) ?_
  obtain ⟨p1, hv⟩ := hv
  refine g_callVi (rest := []) hx hb hml hts hown hNw hA G [.int (iz x1)] (c_X2_firstRule l w σ _ x1 p1) sh_52 rfl wm_402 wm_403 wm_404 wm_27 wm_405 hd_X2_firstRule ⟨rfl, rfl, Nat.le_of_ble_eq_true rfl, Nat.le_of_ble_eq_true rfl⟩ rfl hl.1 (Nat.le_of_ble_eq_true rfl) rfl dX3_takeTopLevel_5 ⟨Nat.zero_le _, Nat.zero_le _⟩ (fun r4 s2 H locs h3 G => ?_)
  obtain ⟨er4, es2⟩ := h3
  rw [es2] at G
  have hv := hv r4 er4
  refine lv_istore_n (lv' := [(2, .int (iz r4)), (0, .ref (gad w 61)), (1, .int (iz x1))]) hx hb dX3_takeTopLevel_8 rfl hl (by decide) rfl (fun ls hl => ?_)
  refine lv_iload_n hx hb dX3_takeTopLevel_9 rfl (lv_at hl 0 rfl) ?_
  refine lv_iconst (v := iz (-1)) hx hb dX3_takeTopLevel_10 rfl ?_
  obtain ⟨i5, hv⟩ := hv
  refine g_icmp_ne (tgt := 53) hx hb i5 ⟨by decide, by decide⟩ dX3_takeTopLevel_11 (by decide) (fun c6 => ?_) (fun c6 => ?_)
  · have hv := hv.1 c6
    refine lv_aload_n hx hb dX3_takeTopLevel_53 rfl (lv_at hl 1 rfl) ?_
    refine lv_iconst (v := iz 0) hx hb dX3_takeTopLevel_54 rfl ?_
    refine g_putI hx hb hts hown 14 inlX3 tyX3 tyX3_ok nmX3 G sh_61 rfl (by decide) rfl wm_99 rfl rfl rfl dX3_takeTopLevel_55 (fun s7 es7 H locs G => ?_)
    have hv := hv s7 es7
    refine lv_aload_n hx hb dX3_takeTopLevel_58 rfl (lv_at hl 1 rfl) ?_
    refine lv_dup hx hb dX3_takeTopLevel_59 rfl ?_
    refine g_getI hx hb hts hown 12 inlX3 G sh_61 rfl (by decide) rfl wm_97 dX3_takeTopLevel_60 ?_
    refine lv_iconst (v := iz 1) hx hb dX3_takeTopLevel_63 rfl ?_
    refine g_iadd hx hb dX3_takeTopLevel_64 ?_
    refine g_putI hx hb hts hown 12 inlX3 tyX3 tyX3_ok nmX3 G sh_61 rfl (by decide) rfl wm_97 rfl rfl rfl dX3_takeTopLevel_65 (fun s8 es8 H locs G => ?_)
    have hv := hv s8 es8
    refine lv_aload_n hx hb dX3_takeTopLevel_68 rfl (lv_at hl 1 rfl) ?_
    refine lv_iload_n hx hb dX3_takeTopLevel_69 rfl (lv_at hl 2 rfl) ?_
    refine lv_iload_n hx hb dX3_takeTopLevel_70 rfl (lv_at hl 0 rfl) ?_
    refine lv_iconst (v := iz (-1)) hx hb dX3_takeTopLevel_71 rfl ?_
    obtain ⟨p9, hv⟩ := hv
    refine g_callVv (rest := []) hx hb hml hts hown hNw hA G [.int (iz x1), .int (iz r4), .int (iz (-1))] (c_X3_announce l w s8 _ x1 r4 (-1) p9) sh_61 rfl wm_406 wm_407 wm_408 wm_31 wm_409 hd_X3_announce ⟨rfl, rfl, Nat.le_of_ble_eq_true rfl, Nat.le_of_ble_eq_true rfl⟩ rfl hl.1 (Nat.le_of_ble_eq_true rfl) rfl dX3_takeTopLevel_72 ⟨Nat.zero_le _, Nat.zero_le _⟩ (fun s10 H locs h11 G => ?_)
    have hv := hv s10 h11
    refine lv_aload_n hx hb dX3_takeTopLevel_75 rfl (lv_at hl 1 rfl) ?_
    refine g_getR hx hb hts hown 1 52 inlX3 G sh_61 rfl (by decide) rfl wm_102 dX3_takeTopLevel_76 ?_
    refine lv_iload_n hx hb dX3_takeTopLevel_79 rfl (lv_at hl 0 rfl) ?_
    refine lv_iload_n hx hb dX3_takeTopLevel_80 rfl (lv_at hl 2 rfl) ?_
    obtain ⟨p12, hv⟩ := hv
    refine g_callVi (rest := []) hx hb hml hts hown hNw hA G [.int (iz r4), .int (iz x1)] (c_X2_islandEnd l w s10 _ r4 x1 p12) sh_52 rfl wm_411 wm_412 wm_413 wm_27 wm_414 hd_X2_islandEnd ⟨rfl, rfl, Nat.le_of_ble_eq_true rfl, Nat.le_of_ble_eq_true rfl⟩ rfl hl.1 (Nat.le_of_ble_eq_true rfl) rfl dX3_takeTopLevel_81 ⟨Nat.zero_le _, Nat.zero_le _⟩ (fun r15 s13 H locs h14 G => ?_)
    obtain ⟨er15, es13⟩ := h14
    rw [es13] at G
    have hv := hv r15 er15
    exact g_iret hx hb hr hlk hz G hv dX3_takeTopLevel_84
  · have hv := hv.2 c6
    refine lv_aload_n hx hb dX3_takeTopLevel_14 rfl (lv_at hl 1 rfl) ?_
    refine lv_dup hx hb dX3_takeTopLevel_15 rfl ?_
    refine g_getI hx hb hts hown 13 inlX3 G sh_61 rfl (by decide) rfl wm_98 dX3_takeTopLevel_16 ?_
    refine lv_iconst (v := iz 1) hx hb dX3_takeTopLevel_19 rfl ?_
    refine g_iadd hx hb dX3_takeTopLevel_20 ?_
    refine g_putI hx hb hts hown 13 inlX3 tyX3 tyX3_ok nmX3 G sh_61 rfl (by decide) rfl wm_98 rfl rfl rfl dX3_takeTopLevel_21 (fun s16 es16 H locs G => ?_)
    have hv := hv s16 es16
    refine lv_aload_n hx hb dX3_takeTopLevel_24 rfl (lv_at hl 1 rfl) ?_
    refine lv_dup hx hb dX3_takeTopLevel_25 rfl ?_
    refine g_getI hx hb hts hown 14 inlX3 G sh_61 rfl (by decide) rfl wm_99 dX3_takeTopLevel_26 ?_
    refine lv_iconst (v := iz 1) hx hb dX3_takeTopLevel_29 rfl ?_
    refine g_iadd hx hb dX3_takeTopLevel_30 ?_
    refine g_putI hx hb hts hown 14 inlX3 tyX3 tyX3_ok nmX3 G sh_61 rfl (by decide) rfl wm_99 rfl rfl rfl dX3_takeTopLevel_31 (fun s17 es17 H locs G => ?_)
    have hv := hv s17 es17
    refine lv_aload_n hx hb dX3_takeTopLevel_34 rfl (lv_at hl 1 rfl) ?_
    refine lv_aload_n hx hb dX3_takeTopLevel_35 rfl (lv_at hl 1 rfl) ?_
    refine g_getI hx hb hts hown 15 inlX3 G sh_61 rfl (by decide) rfl wm_100 dX3_takeTopLevel_36 ?_
    refine lv_aload_n hx hb dX3_takeTopLevel_39 rfl (lv_at hl 1 rfl) ?_
    refine g_getI hx hb hts hown 14 inlX3 G sh_61 rfl (by decide) rfl wm_99 dX3_takeTopLevel_40 ?_
    obtain ⟨i18, hv⟩ := hv
    obtain ⟨i19, hv⟩ := hv
    refine g_max hx hb (hml.trans hl.1.symm) hts hown wm_399 wm_400 wm_151 wm_401 (Nat.le_of_ble_eq_true rfl) (Nat.le_of_ble_eq_true rfl) (Nat.zero_le _) (Nat.zero_le _) i18 i19 dX3_takeTopLevel_43 (fun r20 er20 => ?_)
    have hv := hv r20 er20
    refine g_putI hx hb hts hown 15 inlX3 tyX3 tyX3_ok nmX3 G sh_61 rfl (by decide) rfl wm_100 rfl rfl rfl dX3_takeTopLevel_46 (fun s21 es21 H locs G => ?_)
    have hv := hv s21 es21
    refine lv_iload_n hx hb dX3_takeTopLevel_49 rfl (lv_at hl 2 rfl) ?_
    refine lv_iconst (v := iz 1) hx hb dX3_takeTopLevel_50 rfl ?_
    refine g_iadd hx hb dX3_takeTopLevel_51 ?_
    exact g_iret hx hb hr hlk hz G hv dX3_takeTopLevel_52
abbrev rm_X3_addNode : Room := ({ frames := 2, cells := 0, slots := 0, locals := 46 } : Room)
theorem hd_X3_addNode : yX3_addNode.cls = RX3 ∧ yX3_addNode.cls ≠ "java/lang/invoke/MethodHandle" ∧ yX3_addNode.cls ≠ "java/lang/invoke/VarHandle" ∧ (parseMethodDescriptor yX3_addNode.desc).map (fun d => d.parameters.length) = some 1 := ⟨rfl, by decide +kernel, by decide +kernel, by decide +kernel⟩
set_option maxHeartbeats 4000000 in
set_option maxRecDepth 100000 in
theorem c_X3_addNode (l : Launch) (w : GW) (σ : St) (sz : Nat) (x1 : Int) (hp : pre_X3_addNode x1 σ) : Met l yX3_addNode (Cond.code yX3_addNode cX3_addNode 4 none :: wsL_law) rm_X3_addNode (gPc w gSL σ sz [.ref (gad w 61), .int (iz x1)]) (gQv w gSL sz (post_X3_addNode x1 σ)) 0 0 (gA w gSL.length sz) := by
  have hv : V_X3_addNode x1 σ (post_X3_addNode x1 σ) := v_X3_addNode x1 σ hp
  refine g_met (by decide) [.ref (gad w 61), .int (iz x1)] (Nat.le_of_ble_eq_true rfl) ?_
  intro p e s m below meth c ls hz C0 hl G
  obtain ⟨hx, hb, hr, hml, hown, hts, hlk, hNw, hA⟩ := id C0
  have hown : s.vm.findClass RX3 = some m.cls := hown
  have hl : lv_has ls 4 [(0, .ref (gad w 61)), (1, .int (iz x1))] := hl
  refine lv_aload_n hx hb dX3_addNode_0 rfl (lv_at hl 0 rfl) ?_
  refine g_getR hx hb hts hown 9 76 inlX3 G sh_61 rfl (by decide) rfl wm_94 dX3_addNode_1 ?_
  refine lv_iload_n hx hb dX3_addNode_4 rfl (lv_at hl 1 rfl) ?_
  obtain ⟨p1, hv⟩ := hv
  refine g_callVi (rest := []) hx hb hml hts hown hNw hA G [.int (iz x1)] (c_X4_get l w σ _ 76 100 ⟨sh_76, sh_77⟩ x1 p1) sh_76 rfl wm_415 wm_134 wm_135 wm_22 wm_136 hd_X4_get ⟨rfl, rfl, Nat.le_of_ble_eq_true rfl, Nat.le_of_ble_eq_true rfl⟩ rfl hl.1 (Nat.le_of_ble_eq_true rfl) rfl dX3_addNode_5 ⟨Nat.zero_le _, Nat.zero_le _⟩ (fun r4 s2 H locs h3 G => ?_)
  obtain ⟨er4, es2⟩ := h3
  rw [es2] at G
  have hv := hv r4 er4
  refine lv_istore_n (lv' := [(2, .int (iz r4)), (0, .ref (gad w 61)), (1, .int (iz x1))]) hx hb dX3_addNode_8 rfl hl (by decide) rfl (fun ls hl => ?_)
  refine lv_aload_n hx hb dX3_addNode_9 rfl (lv_at hl 1 rfl) ?_
  refine g_getR hx hb hts hown 10 78 inlX3 G sh_61 rfl (by decide) rfl wm_95 dX3_addNode_10 ?_
  refine lv_iload_n hx hb dX3_addNode_13 rfl (lv_at hl 2 rfl) ?_
  obtain ⟨p5, hv⟩ := hv
  refine g_callVi (rest := []) hx hb hml hts hown hNw hA G [.int (iz x1)] (c_X4_get l w σ _ 78 100 ⟨sh_78, sh_79⟩ x1 p5) sh_78 rfl wm_415 wm_134 wm_135 wm_22 wm_136 hd_X4_get ⟨rfl, rfl, Nat.le_of_ble_eq_true rfl, Nat.le_of_ble_eq_true rfl⟩ rfl hl.1 (Nat.le_of_ble_eq_true rfl) rfl dX3_addNode_14 ⟨Nat.zero_le _, Nat.zero_le _⟩ (fun r8 s6 H locs h7 G => ?_)
  obtain ⟨er8, es6⟩ := h7
  rw [es6] at G
  have hv := hv r8 er8
  refine lv_istore_n (lv' := [(3, .int (iz r8)), (2, .int (iz r4)), (0, .ref (gad w 61)), (1, .int (iz x1))]) hx hb dX3_addNode_17 rfl hl (by decide) rfl (fun ls hl => ?_)
  refine lv_aload_n hx hb dX3_addNode_18 rfl (lv_at hl 2 rfl) ?_
  refine g_getR hx hb hts hown 2 62 inlX3 G sh_61 rfl (by decide) rfl wm_87 dX3_addNode_19 ?_
  refine lv_aload_n hx hb dX3_addNode_22 rfl (lv_at hl 2 rfl) ?_
  refine g_getI hx hb hts hown 11 inlX3 G sh_61 rfl (by decide) rfl wm_96 dX3_addNode_23 ?_
  refine lv_iload_n hx hb dX3_addNode_26 rfl (lv_at hl 1 rfl) ?_
  obtain ⟨p9, hv⟩ := hv
  refine g_callVv (rest := []) hx hb hml hts hown hNw hA G [.int (iz (σ 61 11)), .int (iz r4)] (c_X4_set l w σ _ 62 100 ⟨sh_62, sh_63⟩ (σ 61 11) r4 p9) sh_62 rfl wm_410 wm_138 wm_139 wm_22 wm_140 hd_X4_set ⟨rfl, rfl, Nat.le_of_ble_eq_true rfl, Nat.le_of_ble_eq_true rfl⟩ rfl hl.1 (Nat.le_of_ble_eq_true rfl) rfl dX3_addNode_27 ⟨Nat.zero_le _, Nat.zero_le _⟩ (fun s10 H locs h11 G => ?_)
  have hv := hv s10 h11
  refine lv_aload_n hx hb dX3_addNode_30 rfl (lv_at hl 2 rfl) ?_
  refine g_getR hx hb hts hown 3 64 inlX3 G sh_61 rfl (by decide) rfl wm_88 dX3_addNode_31 ?_
  refine lv_aload_n hx hb dX3_addNode_34 rfl (lv_at hl 2 rfl) ?_
  refine g_getI hx hb hts hown 11 inlX3 G sh_61 rfl (by decide) rfl wm_96 dX3_addNode_35 ?_
  refine lv_iload_n hx hb dX3_addNode_38 rfl (lv_at hl 3 rfl) ?_
  obtain ⟨p12, hv⟩ := hv
  refine g_callVv (rest := []) hx hb hml hts hown hNw hA G [.int (iz (s10 61 11)), .int (iz x1)] (c_X4_set l w s10 _ 64 100 ⟨sh_64, sh_65⟩ (s10 61 11) x1 p12) sh_64 rfl wm_410 wm_138 wm_139 wm_22 wm_140 hd_X4_set ⟨rfl, rfl, Nat.le_of_ble_eq_true rfl, Nat.le_of_ble_eq_true rfl⟩ rfl hl.1 (Nat.le_of_ble_eq_true rfl) rfl dX3_addNode_39 ⟨Nat.zero_le _, Nat.zero_le _⟩ (fun s13 H locs h14 G => ?_)
  have hv := hv s13 h14
  refine lv_aload_n hx hb dX3_addNode_42 rfl (lv_at hl 2 rfl) ?_
  refine g_getR hx hb hts hown 4 66 inlX3 G sh_61 rfl (by decide) rfl wm_89 dX3_addNode_43 ?_
  refine lv_aload_n hx hb dX3_addNode_46 rfl (lv_at hl 2 rfl) ?_
  refine g_getI hx hb hts hown 11 inlX3 G sh_61 rfl (by decide) rfl wm_96 dX3_addNode_47 ?_
  refine lv_aload_n hx hb dX3_addNode_50 rfl (lv_at hl 2 rfl) ?_
  refine g_getR hx hb hts hown 1 52 inlX3 G sh_61 rfl (by decide) rfl wm_102 dX3_addNode_51 ?_
  refine lv_iload_n hx hb dX3_addNode_54 rfl (lv_at hl 1 rfl) ?_
  refine lv_iload_n hx hb dX3_addNode_55 rfl (lv_at hl 3 rfl) ?_
  obtain ⟨p15, hv⟩ := hv
  refine g_callVi (rest := [.int (iz (s13 61 11)), .ref (gad w 66)]) hx hb hml hts hown hNw hA G [.int (iz r4), .int (iz x1)] (c_X2_islandEnd l w s13 _ r4 x1 p15) sh_52 rfl wm_411 wm_412 wm_413 wm_27 wm_414 hd_X2_islandEnd ⟨rfl, rfl, Nat.le_of_ble_eq_true rfl, Nat.le_of_ble_eq_true rfl⟩ rfl hl.1 (Nat.le_of_ble_eq_true rfl) rfl dX3_addNode_56 ⟨Nat.zero_le _, Nat.zero_le _⟩ (fun r18 s16 H locs h17 G => ?_)
  obtain ⟨er18, es16⟩ := h17
  rw [es16] at G
  have hv := hv r18 er18
  obtain ⟨p19, hv⟩ := hv
  refine g_callVv (rest := []) hx hb hml hts hown hNw hA G [.int (iz (s13 61 11)), .int (iz r18)] (c_X4_set l w s13 _ 66 100 ⟨sh_66, sh_67⟩ (s13 61 11) r18 p19) sh_66 rfl wm_410 wm_138 wm_139 wm_22 wm_140 hd_X4_set ⟨rfl, rfl, Nat.le_of_ble_eq_true rfl, Nat.le_of_ble_eq_true rfl⟩ rfl hl.1 (Nat.le_of_ble_eq_true rfl) rfl dX3_addNode_59 ⟨Nat.zero_le _, Nat.zero_le _⟩ (fun s20 H locs h21 G => ?_)
  have hv := hv s20 h21
  refine lv_aload_n hx hb dX3_addNode_62 rfl (lv_at hl 2 rfl) ?_
  refine g_getR hx hb hts hown 5 68 inlX3 G sh_61 rfl (by decide) rfl wm_90 dX3_addNode_63 ?_
  refine lv_aload_n hx hb dX3_addNode_66 rfl (lv_at hl 2 rfl) ?_
  refine g_getI hx hb hts hown 11 inlX3 G sh_61 rfl (by decide) rfl wm_96 dX3_addNode_67 ?_
  refine lv_iload_n hx hb dX3_addNode_70 rfl (lv_at hl 0 rfl) ?_
  obtain ⟨p22, hv⟩ := hv
  refine g_callVv (rest := []) hx hb hml hts hown hNw hA G [.int (iz (s20 61 11)), .int (iz r8)] (c_X4_set l w s20 _ 68 100 ⟨sh_68, sh_69⟩ (s20 61 11) r8 p22) sh_68 rfl wm_410 wm_138 wm_139 wm_22 wm_140 hd_X4_set ⟨rfl, rfl, Nat.le_of_ble_eq_true rfl, Nat.le_of_ble_eq_true rfl⟩ rfl hl.1 (Nat.le_of_ble_eq_true rfl) rfl dX3_addNode_71 ⟨Nat.zero_le _, Nat.zero_le _⟩ (fun s23 H locs h24 G => ?_)
  have hv := hv s23 h24
  refine lv_aload_n hx hb dX3_addNode_74 rfl (lv_at hl 2 rfl) ?_
  refine g_getR hx hb hts hown 6 70 inlX3 G sh_61 rfl (by decide) rfl wm_91 dX3_addNode_75 ?_
  refine lv_aload_n hx hb dX3_addNode_78 rfl (lv_at hl 2 rfl) ?_
  refine g_getI hx hb hts hown 11 inlX3 G sh_61 rfl (by decide) rfl wm_96 dX3_addNode_79 ?_
  refine lv_iload_n hx hb dX3_addNode_82 rfl (lv_at hl 0 rfl) ?_
  refine lv_iconst (v := iz (-1)) hx hb dX3_addNode_83 rfl ?_
  obtain ⟨i25, hv⟩ := hv
  refine g_icmp_ne (tgt := 91) hx hb i25 ⟨by decide, by decide⟩ dX3_addNode_84 (by decide) (fun c26 => ?_) (fun c26 => ?_)
  · have hv := hv.1 c26
    refine lv_aload_n hx hb dX3_addNode_91 rfl (lv_at hl 2 rfl) ?_
    refine g_getR hx hb hts hown 6 70 inlX3 G sh_61 rfl (by decide) rfl wm_91 dX3_addNode_92 ?_
    refine lv_iload_n hx hb dX3_addNode_95 rfl (lv_at hl 0 rfl) ?_
    obtain ⟨p27, hv⟩ := hv
    refine g_callVi (rest := [.int (iz (s23 61 11)), .ref (gad w 70)]) hx hb hml hts hown hNw hA G [.int (iz r8)] (c_X4_get l w s23 _ 70 100 ⟨sh_70, sh_71⟩ r8 p27) sh_70 rfl wm_415 wm_134 wm_135 wm_22 wm_136 hd_X4_get ⟨rfl, rfl, Nat.le_of_ble_eq_true rfl, Nat.le_of_ble_eq_true rfl⟩ rfl hl.1 (Nat.le_of_ble_eq_true rfl) rfl dX3_addNode_96 ⟨Nat.zero_le _, Nat.zero_le _⟩ (fun r30 s28 H locs h29 G => ?_)
    obtain ⟨er30, es28⟩ := h29
    rw [es28] at G
    have hv := hv r30 er30
    refine lv_iconst (v := iz 1) hx hb dX3_addNode_99 rfl ?_
    refine g_iadd hx hb dX3_addNode_100 ?_
    obtain ⟨p31, hv⟩ := hv
    refine g_callVv (rest := []) hx hb hml hts hown hNw hA G [.int (iz (s23 61 11)), .int (iz (r30 + 1))] (c_X4_set l w s23 _ 70 100 ⟨sh_70, sh_71⟩ (s23 61 11) (r30 + 1) p31) sh_70 rfl wm_410 wm_138 wm_139 wm_22 wm_140 hd_X4_set ⟨rfl, rfl, Nat.le_of_ble_eq_true rfl, Nat.le_of_ble_eq_true rfl⟩ rfl hl.1 (Nat.le_of_ble_eq_true rfl) rfl dX3_addNode_101 ⟨Nat.zero_le _, Nat.zero_le _⟩ (fun s32 H locs h33 G => ?_)
    have hv := hv s32 h33
    refine lv_aload_n hx hb dX3_addNode_104 rfl (lv_at hl 2 rfl) ?_
    refine g_getR hx hb hts hown 7 72 inlX3 G sh_61 rfl (by decide) rfl wm_92 dX3_addNode_105 ?_
    refine lv_aload_n hx hb dX3_addNode_108 rfl (lv_at hl 2 rfl) ?_
    refine g_getI hx hb hts hown 11 inlX3 G sh_61 rfl (by decide) rfl wm_96 dX3_addNode_109 ?_
    refine lv_iconst (v := iz 0) hx hb dX3_addNode_112 rfl ?_
    obtain ⟨p34, hv⟩ := hv
    refine g_callVv (rest := []) hx hb hml hts hown hNw hA G [.int (iz (s32 61 11)), .int (iz 0)] (c_X4_set l w s32 _ 72 100 ⟨sh_72, sh_73⟩ (s32 61 11) 0 p34) sh_72 rfl wm_410 wm_138 wm_139 wm_22 wm_140 hd_X4_set ⟨rfl, rfl, Nat.le_of_ble_eq_true rfl, Nat.le_of_ble_eq_true rfl⟩ rfl hl.1 (Nat.le_of_ble_eq_true rfl) rfl dX3_addNode_113 ⟨Nat.zero_le _, Nat.zero_le _⟩ (fun s35 H locs h36 G => ?_)
    have hv := hv s35 h36
    refine lv_aload_n hx hb dX3_addNode_116 rfl (lv_at hl 2 rfl) ?_
    refine g_getR hx hb hts hown 8 74 inlX3 G sh_61 rfl (by decide) rfl wm_93 dX3_addNode_117 ?_
    refine lv_aload_n hx hb dX3_addNode_120 rfl (lv_at hl 2 rfl) ?_
    refine g_getI hx hb hts hown 11 inlX3 G sh_61 rfl (by decide) rfl wm_96 dX3_addNode_121 ?_
    refine lv_iconst (v := iz (-1)) hx hb dX3_addNode_124 rfl ?_
    obtain ⟨p37, hv⟩ := hv
    refine g_callVv (rest := []) hx hb hml hts hown hNw hA G [.int (iz (s35 61 11)), .int (iz (-1))] (c_X4_set l w s35 _ 74 100 ⟨sh_74, sh_75⟩ (s35 61 11) (-1) p37) sh_74 rfl wm_410 wm_138 wm_139 wm_22 wm_140 hd_X4_set ⟨rfl, rfl, Nat.le_of_ble_eq_true rfl, Nat.le_of_ble_eq_true rfl⟩ rfl hl.1 (Nat.le_of_ble_eq_true rfl) rfl dX3_addNode_125 ⟨Nat.zero_le _, Nat.zero_le _⟩ (fun s38 H locs h39 G => ?_)
    have hv := hv s38 h39
    refine lv_aload_n hx hb dX3_addNode_128 rfl (lv_at hl 2 rfl) ?_
    refine lv_dup hx hb dX3_addNode_129 rfl ?_
    refine g_getI hx hb hts hown 11 inlX3 G sh_61 rfl (by decide) rfl wm_96 dX3_addNode_130 ?_
    refine lv_iconst (v := iz 1) hx hb dX3_addNode_133 rfl ?_
    refine g_iadd hx hb dX3_addNode_134 ?_
    refine g_putI hx hb hts hown 11 inlX3 tyX3 tyX3_ok nmX3 G sh_61 rfl (by decide) rfl wm_96 rfl rfl rfl dX3_addNode_135 (fun s40 es40 H locs G => ?_)
    have hv := hv s40 es40
    exact g_vret hx hb hr hlk hz G hv dX3_addNode_138
  · have hv := hv.2 c26
    refine lv_iconst (v := iz 0) hx hb dX3_addNode_87 rfl ?_
    refine lv_goto (tgt := 101) hx hb dX3_addNode_88 (by decide) ?_
    obtain ⟨p41, hv⟩ := hv
    refine g_callVv (rest := []) hx hb hml hts hown hNw hA G [.int (iz (s23 61 11)), .int (iz 0)] (c_X4_set l w s23 _ 70 100 ⟨sh_70, sh_71⟩ (s23 61 11) 0 p41) sh_70 rfl wm_410 wm_138 wm_139 wm_22 wm_140 hd_X4_set ⟨rfl, rfl, Nat.le_of_ble_eq_true rfl, Nat.le_of_ble_eq_true rfl⟩ rfl hl.1 (Nat.le_of_ble_eq_true rfl) rfl dX3_addNode_101 ⟨Nat.zero_le _, Nat.zero_le _⟩ (fun s42 H locs h43 G => ?_)
    have hv := hv s42 h43
    refine lv_aload_n hx hb dX3_addNode_104 rfl (lv_at hl 2 rfl) ?_
    refine g_getR hx hb hts hown 7 72 inlX3 G sh_61 rfl (by decide) rfl wm_92 dX3_addNode_105 ?_
    refine lv_aload_n hx hb dX3_addNode_108 rfl (lv_at hl 2 rfl) ?_
    refine g_getI hx hb hts hown 11 inlX3 G sh_61 rfl (by decide) rfl wm_96 dX3_addNode_109 ?_
    refine lv_iconst (v := iz 0) hx hb dX3_addNode_112 rfl ?_
    obtain ⟨p44, hv⟩ := hv
    refine g_callVv (rest := []) hx hb hml hts hown hNw hA G [.int (iz (s42 61 11)), .int (iz 0)] (c_X4_set l w s42 _ 72 100 ⟨sh_72, sh_73⟩ (s42 61 11) 0 p44) sh_72 rfl wm_410 wm_138 wm_139 wm_22 wm_140 hd_X4_set ⟨rfl, rfl, Nat.le_of_ble_eq_true rfl, Nat.le_of_ble_eq_true rfl⟩ rfl hl.1 (Nat.le_of_ble_eq_true rfl) rfl dX3_addNode_113 ⟨Nat.zero_le _, Nat.zero_le _⟩ (fun s45 H locs h46 G => ?_)
    have hv := hv s45 h46
    refine lv_aload_n hx hb dX3_addNode_116 rfl (lv_at hl 2 rfl) ?_
    refine g_getR hx hb hts hown 8 74 inlX3 G sh_61 rfl (by decide) rfl wm_93 dX3_addNode_117 ?_
    refine lv_aload_n hx hb dX3_addNode_120 rfl (lv_at hl 2 rfl) ?_
    refine g_getI hx hb hts hown 11 inlX3 G sh_61 rfl (by decide) rfl wm_96 dX3_addNode_121 ?_
    refine lv_iconst (v := iz (-1)) hx hb dX3_addNode_124 rfl ?_
    obtain ⟨p47, hv⟩ := hv
    refine g_callVv (rest := []) hx hb hml hts hown hNw hA G [.int (iz (s45 61 11)), .int (iz (-1))] (c_X4_set l w s45 _ 74 100 ⟨sh_74, sh_75⟩ (s45 61 11) (-1) p47) sh_74 rfl wm_410 wm_138 wm_139 wm_22 wm_140 hd_X4_set ⟨rfl, rfl, Nat.le_of_ble_eq_true rfl, Nat.le_of_ble_eq_true rfl⟩ rfl hl.1 (Nat.le_of_ble_eq_true rfl) rfl dX3_addNode_125 ⟨Nat.zero_le _, Nat.zero_le _⟩ (fun s48 H locs h49 G => ?_)
    have hv := hv s48 h49
    refine lv_aload_n hx hb dX3_addNode_128 rfl (lv_at hl 2 rfl) ?_
    refine lv_dup hx hb dX3_addNode_129 rfl ?_
    refine g_getI hx hb hts hown 11 inlX3 G sh_61 rfl (by decide) rfl wm_96 dX3_addNode_130 ?_
    refine lv_iconst (v := iz 1) hx hb dX3_addNode_133 rfl ?_
    refine g_iadd hx hb dX3_addNode_134 ?_
    refine g_putI hx hb hts hown 11 inlX3 tyX3 tyX3_ok nmX3 G sh_61 rfl (by decide) rfl wm_96 rfl rfl rfl dX3_addNode_135 (fun s50 es50 H locs G => ?_)
    have hv := hv s50 es50
    exact g_vret hx hb hr hlk hz G hv dX3_addNode_138
abbrev rm_X2_restMatches : Room := ({ frames := 1, cells := 0, slots := 0, locals := 24 } : Room)
theorem hd_X2_restMatches : yX2_restMatches.cls = RX2 ∧ yX2_restMatches.cls ≠ "java/lang/invoke/MethodHandle" ∧ yX2_restMatches.cls ≠ "java/lang/invoke/VarHandle" ∧ (parseMethodDescriptor yX2_restMatches.desc).map (fun d => d.parameters.length) = some 3 := ⟨rfl, by decide +kernel, by decide +kernel, by decide +kernel⟩
set_option maxHeartbeats 4000000 in
set_option maxRecDepth 100000 in
theorem c_X2_restMatches (l : Launch) (w : GW) (σ : St) (sz : Nat) (x1 x2 x3 : Int) (hp : pre_X2_restMatches x1 x2 x3 σ) : Met l yX2_restMatches (Cond.code yX2_restMatches cX2_restMatches 4 (some .boolean) :: wsL_law) rm_X2_restMatches (gPc w gSL σ sz [.ref (gad w 52), .int (iz x1), .int (iz x2), .int (iz x3)]) (gQi w gSL sz (post_X2_restMatches x1 x2 x3 σ)) 0 0 (gA w gSL.length sz) := by
  have hv : V_X2_restMatches x1 x2 x3 σ (post_X2_restMatches x1 x2 x3 σ) := v_X2_restMatches x1 x2 x3 σ hp
  refine g_met (by decide) [.ref (gad w 52), .int (iz x1), .int (iz x2), .int (iz x3)] (Nat.le_of_ble_eq_true rfl) ?_
  intro p e s m below meth c ls hz C0 hl G
  obtain ⟨hx, hb, hr, hml, hown, hts, hlk, hNw, hA⟩ := id C0
  have hown : s.vm.findClass RX2 = some m.cls := hown
  have hl : lv_has ls 4 [(0, .ref (gad w 52)), (1, .int (iz x1)), (2, .int (iz x2)), (3, .int (iz x3))] := hl
  refine lv_aload_n hx hb dX2_restMatches_0 rfl (lv_at hl 0 rfl) ?_
  refine g_getR hx hb hts hown 4 59 inlX2 G sh_52 rfl (by decide) rfl wm_75 dX2_restMatches_1 ?_
  refine lv_iload_n hx hb dX2_restMatches_4 rfl (lv_at hl 1 rfl) ?_
  refine lv_iload_n hx hb dX2_restMatches_5 rfl (lv_at hl 2 rfl) ?_
  refine lv_iload_n hx hb dX2_restMatches_6 rfl (lv_at hl 3 rfl) ?_
  obtain ⟨p1, hv⟩ := hv
  refine g_callVi (rest := []) hx hb hml hts hown hNw hA G [.int (iz x1), .int (iz x2), .int (iz x3)] (c_X0_get l w σ _ x1 x2 x3 p1) sh_59 rfl wm_368 wm_369 wm_370 wm_74 wm_371 hd_X0_get ⟨rfl, rfl, Nat.le_of_ble_eq_true rfl, Nat.le_of_ble_eq_true rfl⟩ rfl hl.1 (Nat.le_of_ble_eq_true rfl) rfl dX2_restMatches_7 ⟨Nat.zero_le _, Nat.zero_le _⟩ (fun r4 s2 H locs h3 G => ?_)
  obtain ⟨er4, es2⟩ := h3
  rw [es2] at G
  have hv := hv r4 er4
  refine lv_iconst (v := iz (-1)) hx hb dX2_restMatches_10 rfl ?_
  obtain ⟨i5, hv⟩ := hv
  refine g_icmp_eq (tgt := 18) hx hb i5 ⟨by decide, by decide⟩ dX2_restMatches_11 (by decide) (fun c6 => ?_) (fun c6 => ?_)
  · have hv := hv.1 c6
    refine lv_iconst (v := iz 0) hx hb dX2_restMatches_18 rfl ?_
    exact g_zret hx hb hr hlk hz G (Or.inl rfl) hv dX2_restMatches_19
  · have hv := hv.2 c6
    refine lv_iconst (v := iz 1) hx hb dX2_restMatches_14 rfl ?_
    refine lv_goto (tgt := 19) hx hb dX2_restMatches_15 (by decide) ?_
    exact g_zret hx hb hr hlk hz G (Or.inr rfl) hv dX2_restMatches_19
abbrev rm_X3_walkWater : Room := ({ frames := 2, cells := 0, slots := 0, locals := 47 } : Room)
theorem hd_X3_walkWater : yX3_walkWater.cls = RX3 ∧ yX3_walkWater.cls ≠ "java/lang/invoke/MethodHandle" ∧ yX3_walkWater.cls ≠ "java/lang/invoke/VarHandle" ∧ (parseMethodDescriptor yX3_walkWater.desc).map (fun d => d.parameters.length) = some 3 := ⟨rfl, by decide +kernel, by decide +kernel, by decide +kernel⟩
set_option maxHeartbeats 4000000 in
set_option maxRecDepth 100000 in
theorem lw_X3_walkWater_16 {p : Program} {l : Launch} {e : Env} {s : State} {m : MethodId} {args : Array Value} {below : List Frame} {meth : Method} {c : Code} {w : GW} {sz : Nat} (hz : s.heap.size = sz) (C0 : gC p s m args meth c cX3_walkWater (some .int) 8 yX3_walkWater.cls (gA w gSL.length sz)) (Q : Int → St → Prop) (y1 y2 y4 : Int) : ∀ (n : Nat) (y5 y6 : Int) (σ : St) (H : Heap) (locs : List Loc) (ls : Array Slot), L_X3_walkWater_16 Q y1 y2 y4 n y5 y6 σ → gS w gSL σ (gA w gSL.length sz) s s.heap H locs → lv_has ls 8 [(0, .ref (gad w 61)), (1, .int (iz y1)), (2, .int (iz y2)), (4, .int (iz y4)), (5, .int (iz y5)), (6, .int (iz y6))] → W p l e rm_X3_walkWater s m args below meth c H locs 0 0 (MQ below (gQi w gSL sz Q) args s 0 0 (gA w gSL.length sz)) (F0 m 16 ls []) := by
  obtain ⟨hx, hb, hr, hml, hown, hts, hlk, hNw, hA⟩ := id C0
  have hown : s.vm.findClass RX3 = some m.cls := hown
  intro n
  induction n with
  | zero => intro y5 y6 σ H locs ls hv; exact hv.elim
  | succ n ih =>
    intro y5 y6 σ H locs ls hv G hl
    refine lv_iload hx hb dX3_walkWater_16 (lv_at hl 5 rfl) ?_
    refine lv_bipush (v := iz 100) hx hb dX3_walkWater_18 (by decide +kernel) ?_
    obtain ⟨i5, hv⟩ := hv
    refine g_icmp_ge (tgt := 112) hx hb i5 ⟨by decide, by decide⟩ dX3_walkWater_20 (by decide) (fun c6 => ?_) (fun c6 => ?_)
    · have hv := hv.1 c6
      refine lv_iload hx hb dX3_walkWater_112 (lv_at hl 4 rfl) ?_
      exact g_iret hx hb hr hlk hz G hv dX3_walkWater_114
    · have hv := hv.2 c6
      refine lv_aload_n hx hb dX3_walkWater_23 rfl (lv_at hl 0 rfl) ?_
      refine g_getR hx hb hts hown 1 52 inlX3 G sh_61 rfl (by decide) rfl wm_102 dX3_walkWater_24 ?_
      refine lv_iload hx hb dX3_walkWater_27 (lv_at hl 3 rfl) ?_
      refine lv_iload_n hx hb dX3_walkWater_29 rfl (lv_at hl 2 rfl) ?_
      refine lv_iconst (v := iz 1) hx hb dX3_walkWater_30 rfl ?_
      refine g_iadd hx hb dX3_walkWater_31 ?_
      refine lv_iload hx hb dX3_walkWater_32 (lv_at hl 4 rfl) ?_
      obtain ⟨p7, hv⟩ := hv
      refine g_callVi (rest := []) hx hb hml hts hown hNw hA G [.int (iz y4), .int (iz (y2 + 1)), .int (iz y5)] (c_X2_restMatches l w σ _ y4 (y2 + 1) y5 p7) sh_52 rfl wm_430 wm_431 wm_432 wm_27 wm_433 hd_X2_restMatches ⟨rfl, rfl, Nat.le_of_ble_eq_true rfl, Nat.le_of_ble_eq_true rfl⟩ rfl hl.1 (Nat.le_of_ble_eq_true rfl) rfl dX3_walkWater_34 ⟨Nat.zero_le _, Nat.zero_le _⟩ (fun r10 s8 H locs h9 G => ?_)
      obtain ⟨er10, es8⟩ := h9
      rw [es8] at G
      have hv := hv r10 er10
      obtain ⟨i11, hv⟩ := hv
      refine g_if_eq (tgt := 43) hx hb i11 dX3_walkWater_37 (by decide) (fun c12 => ?_) (fun c12 => ?_)
      · have hv := hv.1 c12
        refine lv_aload_n hx hb dX3_walkWater_43 rfl (lv_at hl 0 rfl) ?_
        refine g_getR hx hb hts hown 1 52 inlX3 G sh_61 rfl (by decide) rfl wm_102 dX3_walkWater_44 ?_
        refine lv_iload hx hb dX3_walkWater_47 (lv_at hl 4 rfl) ?_
        obtain ⟨p13, hv⟩ := hv
        refine g_callVi (rest := []) hx hb hml hts hown hNw hA G [.int (iz y5)] (c_X2_firstRule l w σ _ y5 p13) sh_52 rfl wm_402 wm_403 wm_404 wm_27 wm_405 hd_X2_firstRule ⟨rfl, rfl, Nat.le_of_ble_eq_true rfl, Nat.le_of_ble_eq_true rfl⟩ rfl hl.1 (Nat.le_of_ble_eq_true rfl) rfl dX3_walkWater_49 ⟨Nat.zero_le _, Nat.zero_le _⟩ (fun r16 s14 H locs h15 G => ?_)
        obtain ⟨er16, es14⟩ := h15
        rw [es14] at G
        have hv := hv r16 er16
        refine lv_istore (lv' := [(7, .int (iz r16)), (0, .ref (gad w 61)), (1, .int (iz y1)), (2, .int (iz y2)), (4, .int (iz y4)), (5, .int (iz y5)), (6, .int (iz y6))]) hx hb dX3_walkWater_52 hl (by decide) rfl (fun ls hl => ?_)
        refine lv_iload hx hb dX3_walkWater_54 (lv_at hl 0 rfl) ?_
        refine lv_iconst (v := iz (-1)) hx hb dX3_walkWater_56 rfl ?_
        obtain ⟨i17, hv⟩ := hv
        refine g_icmp_ne (tgt := 84) hx hb i17 ⟨by decide, by decide⟩ dX3_walkWater_57 (by decide) (fun c18 => ?_) (fun c18 => ?_)
        · have hv := hv.1 c18
          refine lv_aload_n hx hb dX3_walkWater_84 rfl (lv_at hl 1 rfl) ?_
          refine lv_iload hx hb dX3_walkWater_85 (lv_at hl 5 rfl) ?_
          refine lv_iload hx hb dX3_walkWater_87 (lv_at hl 0 rfl) ?_
          refine lv_iload_n hx hb dX3_walkWater_89 rfl (lv_at hl 2 rfl) ?_
          obtain ⟨p19, hv⟩ := hv
          refine g_callVv (rest := []) hx hb hml hts hown hNw hA G [.int (iz y5), .int (iz r16), .int (iz y1)] (c_X3_announce l w σ _ y5 r16 y1 p19) sh_61 rfl wm_406 wm_407 wm_408 wm_31 wm_409 hd_X3_announce ⟨rfl, rfl, Nat.le_of_ble_eq_true rfl, Nat.le_of_ble_eq_true rfl⟩ rfl hl.1 (Nat.le_of_ble_eq_true rfl) rfl dX3_walkWater_90 ⟨Nat.zero_le _, Nat.zero_le _⟩ (fun s20 H locs h21 G => ?_)
          have hv := hv s20 h21
          refine lv_aload_n hx hb dX3_walkWater_93 rfl (lv_at hl 1 rfl) ?_
          refine g_getR hx hb hts hown 1 52 inlX3 G sh_61 rfl (by decide) rfl wm_102 dX3_walkWater_94 ?_
          refine lv_iload hx hb dX3_walkWater_97 (lv_at hl 0 rfl) ?_
          refine lv_iload hx hb dX3_walkWater_99 (lv_at hl 5 rfl) ?_
          obtain ⟨p22, hv⟩ := hv
          refine g_callVi (rest := []) hx hb hml hts hown hNw hA G [.int (iz r16), .int (iz y5)] (c_X2_islandEnd l w s20 _ r16 y5 p22) sh_52 rfl wm_411 wm_412 wm_413 wm_27 wm_414 hd_X2_islandEnd ⟨rfl, rfl, Nat.le_of_ble_eq_true rfl, Nat.le_of_ble_eq_true rfl⟩ rfl hl.1 (Nat.le_of_ble_eq_true rfl) rfl dX3_walkWater_101 ⟨Nat.zero_le _, Nat.zero_le _⟩ (fun r25 s23 H locs h24 G => ?_)
          obtain ⟨er25, es23⟩ := h24
          rw [es23] at G
          have hv := hv r25 er25
          refine lv_istore (lv' := [(5, .int (iz r25)), (7, .int (iz r16)), (0, .ref (gad w 61)), (1, .int (iz y1)), (2, .int (iz y2)), (4, .int (iz y4)), (6, .int (iz y6))]) hx hb dX3_walkWater_104 hl (by decide) rfl (fun ls hl => ?_)
          refine g_iinc (k := 6) (x := y6) (n := 1) (lv' := [(6, .int (iz (y6 + 1))), (5, .int (iz r25)), (7, .int (iz r16)), (0, .ref (gad w 61)), (1, .int (iz y1)), (2, .int (iz y2)), (4, .int (iz y4))]) hx hb dX3_walkWater_106 hl rfl (by decide) rfl (fun ls hl => ?_)
          refine lv_goto (tgt := 16) hx hb dX3_walkWater_109 (by decide) ?_
          exact ih _ _ _ _ _ _ hv G (lv_sub hl [3, 4, 5, 6, 1, 0] rfl)
        · have hv := hv.2 c18
          refine lv_aload_n hx hb dX3_walkWater_60 rfl (lv_at hl 1 rfl) ?_
          refine g_getR hx hb hts hown 7 72 inlX3 G sh_61 rfl (by decide) rfl wm_92 dX3_walkWater_61 ?_
          refine lv_iload_n hx hb dX3_walkWater_64 rfl (lv_at hl 2 rfl) ?_
          refine lv_aload_n hx hb dX3_walkWater_65 rfl (lv_at hl 1 rfl) ?_
          refine g_getR hx hb hts hown 7 72 inlX3 G sh_61 rfl (by decide) rfl wm_92 dX3_walkWater_66 ?_
          refine lv_iload_n hx hb dX3_walkWater_69 rfl (lv_at hl 2 rfl) ?_
          obtain ⟨p26, hv⟩ := hv
          refine g_callVi (rest := [.int (iz y1), .ref (gad w 72)]) hx hb hml hts hown hNw hA G [.int (iz y1)] (c_X4_get l w σ _ 72 100 ⟨sh_72, sh_73⟩ y1 p26) sh_72 rfl wm_415 wm_134 wm_135 wm_22 wm_136 hd_X4_get ⟨rfl, rfl, Nat.le_of_ble_eq_true rfl, Nat.le_of_ble_eq_true rfl⟩ rfl hl.1 (Nat.le_of_ble_eq_true rfl) rfl dX3_walkWater_70 ⟨Nat.zero_le _, Nat.zero_le _⟩ (fun r29 s27 H locs h28 G => ?_)
          obtain ⟨er29, es27⟩ := h28
          rw [es27] at G
          have hv := hv r29 er29
          refine lv_iconst (v := iz 1) hx hb dX3_walkWater_73 rfl ?_
          refine g_iadd hx hb dX3_walkWater_74 ?_
          obtain ⟨p30, hv⟩ := hv
          refine g_callVv (rest := []) hx hb hml hts hown hNw hA G [.int (iz y1), .int (iz (r29 + 1))] (c_X4_set l w σ _ 72 100 ⟨sh_72, sh_73⟩ y1 (r29 + 1) p30) sh_72 rfl wm_410 wm_138 wm_139 wm_22 wm_140 hd_X4_set ⟨rfl, rfl, Nat.le_of_ble_eq_true rfl, Nat.le_of_ble_eq_true rfl⟩ rfl hl.1 (Nat.le_of_ble_eq_true rfl) rfl dX3_walkWater_75 ⟨Nat.zero_le _, Nat.zero_le _⟩ (fun s31 H locs h32 G => ?_)
          have hv := hv s31 h32
          refine g_iinc (k := 5) (x := y5) (n := 1) (lv' := [(5, .int (iz (y5 + 1))), (7, .int (iz r16)), (0, .ref (gad w 61)), (1, .int (iz y1)), (2, .int (iz y2)), (4, .int (iz y4)), (6, .int (iz y6))]) hx hb dX3_walkWater_78 hl rfl (by decide) rfl (fun ls hl => ?_)
          refine lv_goto (tgt := 106) hx hb dX3_walkWater_81 (by decide) ?_
          refine g_iinc (k := 6) (x := y6) (n := 1) (lv' := [(6, .int (iz (y6 + 1))), (5, .int (iz (y5 + 1))), (7, .int (iz r16)), (0, .ref (gad w 61)), (1, .int (iz y1)), (2, .int (iz y2)), (4, .int (iz y4))]) hx hb dX3_walkWater_106 hl rfl (by decide) rfl (fun ls hl => ?_)
          refine lv_goto (tgt := 16) hx hb dX3_walkWater_109 (by decide) ?_
          exact ih _ _ _ _ _ _ hv G (lv_sub hl [3, 4, 5, 6, 1, 0] rfl)
      · have hv := hv.2 c12
        refine lv_goto (tgt := 112) hx hb dX3_walkWater_40 (by decide) ?_
        refine lv_iload hx hb dX3_walkWater_112 (lv_at hl 4 rfl) ?_
        exact g_iret hx hb hr hlk hz G hv dX3_walkWater_114
set_option maxHeartbeats 4000000 in
set_option maxRecDepth 100000 in
theorem c_X3_walkWater (l : Launch) (w : GW) (σ : St) (sz : Nat) (x1 x2 x3 : Int) (hp : pre_X3_walkWater x1 x2 x3 σ) : Met l yX3_walkWater (Cond.code yX3_walkWater cX3_walkWater 8 (some .int) :: wsL_law) rm_X3_walkWater (gPc w gSL σ sz [.ref (gad w 61), .int (iz x1), .int (iz x2), .int (iz x3)]) (gQi w gSL sz (post_X3_walkWater x1 x2 x3 σ)) 0 0 (gA w gSL.length sz) := by
  have hv : V_X3_walkWater x1 x2 x3 σ (post_X3_walkWater x1 x2 x3 σ) := v_X3_walkWater x1 x2 x3 σ hp
  refine g_met (by decide) [.ref (gad w 61), .int (iz x1), .int (iz x2), .int (iz x3)] (Nat.le_of_ble_eq_true rfl) ?_
  intro p e s m below meth c ls hz C0 hl G
  obtain ⟨hx, hb, hr, hml, hown, hts, hlk, hNw, hA⟩ := id C0
  have hown : s.vm.findClass RX3 = some m.cls := hown
  have hl : lv_has ls 8 [(0, .ref (gad w 61)), (1, .int (iz x1)), (2, .int (iz x2)), (3, .int (iz x3))] := hl
  refine lv_aload_n hx hb dX3_walkWater_0 rfl (lv_at hl 0 rfl) ?_
  refine g_getR hx hb hts hown 2 62 inlX3 G sh_61 rfl (by decide) rfl wm_87 dX3_walkWater_1 ?_
  refine lv_iload_n hx hb dX3_walkWater_4 rfl (lv_at hl 1 rfl) ?_
  obtain ⟨p1, hv⟩ := hv
  refine g_callVi (rest := []) hx hb hml hts hown hNw hA G [.int (iz x1)] (c_X4_get l w σ _ 62 100 ⟨sh_62, sh_63⟩ x1 p1) sh_62 rfl wm_415 wm_134 wm_135 wm_22 wm_136 hd_X4_get ⟨rfl, rfl, Nat.le_of_ble_eq_true rfl, Nat.le_of_ble_eq_true rfl⟩ rfl hl.1 (Nat.le_of_ble_eq_true rfl) rfl dX3_walkWater_5 ⟨Nat.zero_le _, Nat.zero_le _⟩ (fun r4 s2 H locs h3 G => ?_)
  obtain ⟨er4, es2⟩ := h3
  rw [es2] at G
  have hv := hv r4 er4
  refine lv_istore (lv' := [(4, .int (iz r4)), (0, .ref (gad w 61)), (1, .int (iz x1)), (2, .int (iz x2)), (3, .int (iz x3))]) hx hb dX3_walkWater_8 hl (by decide) rfl (fun ls hl => ?_)
  refine lv_iload_n hx hb dX3_walkWater_10 rfl (lv_at hl 4 rfl) ?_
  refine lv_istore (lv' := [(5, .int (iz x3)), (4, .int (iz r4)), (0, .ref (gad w 61)), (1, .int (iz x1)), (2, .int (iz x2)), (3, .int (iz x3))]) hx hb dX3_walkWater_11 hl (by decide) rfl (fun ls hl => ?_)
  refine lv_iconst (v := iz 0) hx hb dX3_walkWater_13 rfl ?_
  refine lv_istore (lv' := [(6, .int (iz 0)), (5, .int (iz x3)), (4, .int (iz r4)), (0, .ref (gad w 61)), (1, .int (iz x1)), (2, .int (iz x2)), (3, .int (iz x3))]) hx hb dX3_walkWater_14 hl (by decide) rfl (fun ls hl => ?_)
  obtain ⟨n_, hv⟩ := hv
  exact lw_X3_walkWater_16 (l := l) (p := p) (e := e) hz C0 _ x1 x2 r4 n_ _ _ _ _ _ _ hv G (lv_sub hl [3, 4, 5, 2, 1, 0] rfl)
abbrev rm_X5_numberBetween : Room := ({ frames := 2, cells := 0, slots := 0, locals := 42 } : Room)
theorem hd_X5_numberBetween : yX5_numberBetween.cls = RX5 ∧ yX5_numberBetween.cls ≠ "java/lang/invoke/MethodHandle" ∧ yX5_numberBetween.cls ≠ "java/lang/invoke/VarHandle" ∧ (parseMethodDescriptor yX5_numberBetween.desc).map (fun d => d.parameters.length) = some 2 := ⟨rfl, by decide +kernel, by decide +kernel, by decide +kernel⟩
set_option maxHeartbeats 4000000 in
set_option maxRecDepth 100000 in
theorem lw_X5_numberBetween_5 {p : Program} {l : Launch} {e : Env} {s : State} {m : MethodId} {args : Array Value} {below : List Frame} {meth : Method} {c : Code} {w : GW} {sz : Nat} (hz : s.heap.size = sz) (C0 : gC p s m args meth c cX5_numberBetween (some .int) 5 yX5_numberBetween.cls (gA w gSL.length sz)) (Q : Int → St → Prop) (y2 : Int) : ∀ (n : Nat) (y3 y4 : Int) (σ : St) (H : Heap) (locs : List Loc) (ls : Array Slot), L_X5_numberBetween_5 Q y2 n y3 y4 σ → gS w gSL σ (gA w gSL.length sz) s s.heap H locs → lv_has ls 5 [(0, .ref (gad w 1)), (2, .int (iz y2)), (3, .int (iz y3)), (4, .int (iz y4))] → W p l e rm_X5_numberBetween s m args below meth c H locs 0 0 (MQ below (gQi w gSL sz Q) args s 0 0 (gA w gSL.length sz)) (F0 m 5 ls []) := by
  obtain ⟨hx, hb, hr, hml, hown, hts, hlk, hNw, hA⟩ := id C0
  have hown : s.vm.findClass RX5 = some m.cls := hown
  intro n
  induction n with
  | zero => intro y3 y4 σ H locs ls hv; exact hv.elim
  | succ n ih =>
    intro y3 y4 σ H locs ls hv G hl
    refine lv_iload hx hb dX5_numberBetween_5 (lv_at hl 3 rfl) ?_
    refine lv_iload_n hx hb dX5_numberBetween_7 rfl (lv_at hl 1 rfl) ?_
    obtain ⟨i1, hv⟩ := hv
    obtain ⟨i2, hv⟩ := hv
    refine g_icmp_ge (tgt := 35) hx hb i1 i2 dX5_numberBetween_8 (by decide) (fun c3 => ?_) (fun c3 => ?_)
    · have hv := hv.1 c3
      refine lv_iload_n hx hb dX5_numberBetween_35 rfl (lv_at hl 2 rfl) ?_
      exact g_iret hx hb hr hlk hz G hv dX5_numberBetween_36
    · have hv := hv.2 c3
      refine lv_iload_n hx hb dX5_numberBetween_11 rfl (lv_at hl 2 rfl) ?_
      refine lv_bipush (v := iz 10) hx hb dX5_numberBetween_12 (by decide +kernel) ?_
      refine g_imul hx hb dX5_numberBetween_14 ?_
      refine lv_aload_n hx hb dX5_numberBetween_15 rfl (lv_at hl 0 rfl) ?_
      refine lv_iload hx hb dX5_numberBetween_16 (lv_at hl 3 rfl) ?_
      obtain ⟨p4, hv⟩ := hv
      refine g_callVi (rest := [.int (iz (y3 * 10))]) hx hb hml hts hown hNw hA G [.int (iz y4)] (c_X5_textAt l w σ _ y4 p4) sh_1 rfl wm_440 wm_200 wm_201 wm_14 wm_202 hd_X5_textAt ⟨rfl, rfl, Nat.le_of_ble_eq_true rfl, Nat.le_of_ble_eq_true rfl⟩ rfl hl.1 (Nat.le_of_ble_eq_true rfl) rfl dX5_numberBetween_18 ⟨Nat.zero_le _, Nat.zero_le _⟩ (fun r7 s5 H locs h6 G => ?_)
      obtain ⟨er7, es5⟩ := h6
      rw [es5] at G
      have hv := hv r7 er7
      refine g_iadd hx hb dX5_numberBetween_21 ?_
      refine lv_bipush (v := iz 48) hx hb dX5_numberBetween_22 (by decide +kernel) ?_
      refine g_isub hx hb dX5_numberBetween_24 ?_
      refine lv_ldc (v := iz 1000000) hx hb hown (hts _ wm_439) dX5_numberBetween_25 ?_
      obtain ⟨o8, hv⟩ := hv
      refine g_irem hx hb o8.1 o8.2 (by decide) (by decide) dX5_numberBetween_27 ?_
      refine lv_istore_n (lv' := [(3, .int (iz ((((y3 * 10) + r7) - 48) % 1000000))), (0, .ref (gad w 1)), (2, .int (iz y2)), (4, .int (iz y4))]) hx hb dX5_numberBetween_28 rfl hl (by decide) rfl (fun ls hl => ?_)
      refine g_iinc (k := 3) (x := y4) (n := 1) (lv' := [(4, .int (iz (y4 + 1))), (3, .int (iz ((((y3 * 10) + r7) - 48) % 1000000))), (0, .ref (gad w 1)), (2, .int (iz y2))]) hx hb dX5_numberBetween_29 hl rfl (by decide) rfl (fun ls hl => ?_)
      refine lv_goto (tgt := 5) hx hb dX5_numberBetween_32 (by decide) ?_
      exact ih _ _ _ _ _ _ hv G (lv_sub hl [2, 3, 1, 0] rfl)
set_option maxHeartbeats 4000000 in
set_option maxRecDepth 100000 in
theorem c_X5_numberBetween (l : Launch) (w : GW) (σ : St) (sz : Nat) (x1 x2 : Int) (hp : pre_X5_numberBetween x1 x2 σ) : Met l yX5_numberBetween (Cond.code yX5_numberBetween cX5_numberBetween 5 (some .int) :: wsL_law) rm_X5_numberBetween (gPc w gSL σ sz [.ref (gad w 1), .int (iz x1), .int (iz x2)]) (gQi w gSL sz (post_X5_numberBetween x1 x2 σ)) 0 0 (gA w gSL.length sz) := by
  have hv : V_X5_numberBetween x1 x2 σ (post_X5_numberBetween x1 x2 σ) := v_X5_numberBetween x1 x2 σ hp
  refine g_met (by decide) [.ref (gad w 1), .int (iz x1), .int (iz x2)] (Nat.le_of_ble_eq_true rfl) ?_
  intro p e s m below meth c ls hz C0 hl G
  obtain ⟨hx, hb, hr, hml, hown, hts, hlk, hNw, hA⟩ := id C0
  have hown : s.vm.findClass RX5 = some m.cls := hown
  have hl : lv_has ls 5 [(0, .ref (gad w 1)), (1, .int (iz x1)), (2, .int (iz x2))] := hl
  refine lv_iconst (v := iz 0) hx hb dX5_numberBetween_0 rfl ?_
  refine lv_istore_n (lv' := [(3, .int (iz 0)), (0, .ref (gad w 1)), (1, .int (iz x1)), (2, .int (iz x2))]) hx hb dX5_numberBetween_1 rfl hl (by decide) rfl (fun ls hl => ?_)
  refine lv_iload_n hx hb dX5_numberBetween_2 rfl (lv_at hl 2 rfl) ?_
  refine lv_istore (lv' := [(4, .int (iz x1)), (3, .int (iz 0)), (0, .ref (gad w 1)), (1, .int (iz x1)), (2, .int (iz x2))]) hx hb dX5_numberBetween_3 hl (by decide) rfl (fun ls hl => ?_)
  obtain ⟨n_, hv⟩ := hv
  exact lw_X5_numberBetween_5 (l := l) (p := p) (e := e) hz C0 _ x2 n_ _ _ _ _ _ _ hv G (lv_sub hl [2, 4, 1, 0] rfl)
abbrev rm_X3_walkPattern : Room := ({ frames := 3, cells := 0, slots := 0, locals := 74 } : Room)
theorem hd_X3_walkPattern : yX3_walkPattern.cls = RX3 ∧ yX3_walkPattern.cls ≠ "java/lang/invoke/MethodHandle" ∧ yX3_walkPattern.cls ≠ "java/lang/invoke/VarHandle" ∧ (parseMethodDescriptor yX3_walkPattern.desc).map (fun d => d.parameters.length) = some 1 := ⟨rfl, by decide +kernel, by decide +kernel, by decide +kernel⟩
set_option maxHeartbeats 4000000 in
set_option maxRecDepth 100000 in
theorem lw_X3_walkPattern_31 {p : Program} {l : Launch} {e : Env} {s : State} {m : MethodId} {args : Array Value} {below : List Frame} {meth : Method} {c : Code} {w : GW} {sz : Nat} (hz : s.heap.size = sz) (C0 : gC p s m args meth c cX3_walkPattern none 8 yX3_walkPattern.cls (gA w gSL.length sz)) (Q : St → Prop) (y1 y2 y3 : Int) : ∀ (n : Nat) (y4 y5 : Int) (σ : St) (H : Heap) (locs : List Loc) (ls : Array Slot), L_X3_walkPattern_31 Q y1 y2 y3 n y4 y5 σ → gS w gSL σ (gA w gSL.length sz) s s.heap H locs → lv_has ls 8 [(0, .ref (gad w 61)), (1, .int (iz y1)), (2, .int (iz y2)), (3, .int (iz y3)), (4, .int (iz y4)), (5, .int (iz y5))] → W p l e rm_X3_walkPattern s m args below meth c H locs 0 0 (MQ below (gQv w gSL sz Q) args s 0 0 (gA w gSL.length sz)) (F0 m 31 ls []) := by
  obtain ⟨hx, hb, hr, hml, hown, hts, hlk, hNw, hA⟩ := id C0
  have hown : s.vm.findClass RX3 = some m.cls := hown
  intro n
  induction n with
  | zero => intro y4 y5 σ H locs ls hv; exact hv.elim
  | succ n ih =>
    intro y4 y5 σ H locs ls hv G hl
    refine lv_iload hx hb dX3_walkPattern_31 (lv_at hl 5 rfl) ?_
    refine lv_iload_n hx hb dX3_walkPattern_33 rfl (lv_at hl 3 rfl) ?_
    obtain ⟨i13, hv⟩ := hv
    obtain ⟨i14, hv⟩ := hv
    refine g_icmp_ge (tgt := 149) hx hb i13 i14 dX3_walkPattern_34 (by decide) (fun c15 => ?_) (fun c15 => ?_)
    · have hv := hv.1 c15
      exact g_vret hx hb hr hlk hz G hv dX3_walkPattern_149
    · have hv := hv.2 c15
      refine lv_aload_n hx hb dX3_walkPattern_37 rfl (lv_at hl 0 rfl) ?_
      refine g_getR hx hb hts hown 0 1 inlX3 G sh_61 rfl (by decide) rfl wm_101 dX3_walkPattern_38 ?_
      refine lv_iload_n hx hb dX3_walkPattern_41 rfl (lv_at hl 2 rfl) ?_
      refine lv_iload hx hb dX3_walkPattern_42 (lv_at hl 5 rfl) ?_
      obtain ⟨p16, hv⟩ := hv
      refine g_callVi (rest := []) hx hb hml hts hown hNw hA G [.int (iz y2), .int (iz y5)] (c_X5_patternAt l w σ _ y2 y5 p16) sh_1 rfl wm_425 wm_320 wm_321 wm_14 wm_322 hd_X5_patternAt ⟨rfl, rfl, Nat.le_of_ble_eq_true rfl, Nat.le_of_ble_eq_true rfl⟩ rfl hl.1 (Nat.le_of_ble_eq_true rfl) rfl dX3_walkPattern_44 ⟨Nat.zero_le _, Nat.zero_le _⟩ (fun r19 s17 H locs h18 G => ?_)
      obtain ⟨er19, es17⟩ := h18
      rw [es17] at G
      have hv := hv r19 er19
      refine lv_istore (lv' := [(6, .int (iz r19)), (0, .ref (gad w 61)), (1, .int (iz y1)), (2, .int (iz y2)), (3, .int (iz y3)), (4, .int (iz y4)), (5, .int (iz y5))]) hx hb dX3_walkPattern_47 hl (by decide) rfl (fun ls hl => ?_)
      refine lv_iload hx hb dX3_walkPattern_49 (lv_at hl 5 rfl) ?_
      refine lv_istore (lv' := [(7, .int (iz y4)), (6, .int (iz r19)), (0, .ref (gad w 61)), (1, .int (iz y1)), (2, .int (iz y2)), (3, .int (iz y3)), (4, .int (iz y4)), (5, .int (iz y5))]) hx hb dX3_walkPattern_51 hl (by decide) rfl (fun ls hl => ?_)
      refine lv_iload hx hb dX3_walkPattern_53 (lv_at hl 1 rfl) ?_
      refine lv_bipush (v := iz 126) hx hb dX3_walkPattern_55 (by decide +kernel) ?_
      obtain ⟨i20, hv⟩ := hv
      refine g_icmp_ne (tgt := 72) hx hb i20 ⟨by decide, by decide⟩ dX3_walkPattern_57 (by decide) (fun c21 => ?_) (fun c21 => ?_)
      · have hv := hv.1 c21
        refine lv_aload_n hx hb dX3_walkPattern_72 rfl (lv_at hl 2 rfl) ?_
        refine g_getR hx hb hts hown 1 52 inlX3 G sh_61 rfl (by decide) rfl wm_102 dX3_walkPattern_73 ?_
        refine lv_iload hx hb dX3_walkPattern_76 (lv_at hl 1 rfl) ?_
        refine lv_iload hx hb dX3_walkPattern_78 (lv_at hl 0 rfl) ?_
        obtain ⟨p22, hv⟩ := hv
        refine g_callVi (rest := []) hx hb hml hts hown hNw hA G [.int (iz r19), .int (iz y4)] (c_X2_elementEnd l w σ _ r19 y4 p22) sh_52 rfl wm_434 wm_365 wm_366 wm_27 wm_367 hd_X2_elementEnd ⟨rfl, rfl, Nat.le_of_ble_eq_true rfl, Nat.le_of_ble_eq_true rfl⟩ rfl hl.1 (Nat.le_of_ble_eq_true rfl) rfl dX3_walkPattern_80 ⟨Nat.zero_le _, Nat.zero_le _⟩ (fun r25 s23 H locs h24 G => ?_)
        obtain ⟨er25, es23⟩ := h24
        rw [es23] at G
        have hv := hv r25 er25
        refine lv_istore (lv' := [(4, .int (iz r25)), (7, .int (iz y4)), (6, .int (iz r19)), (0, .ref (gad w 61)), (1, .int (iz y1)), (2, .int (iz y2)), (3, .int (iz y3)), (5, .int (iz y5))]) hx hb dX3_walkPattern_83 hl (by decide) rfl (fun ls hl => ?_)
        refine lv_iload hx hb dX3_walkPattern_85 (lv_at hl 2 rfl) ?_
        obtain ⟨p26, hv⟩ := hv
        refine g_callNi (host := "IslandGrammar") (rest := []) hx hb hml hts hown hNw hA G [.int (iz r19)] (c_X6_isReference l w σ _ r19 p26) (List.mem_of_getElem? (i := 5) rfl) wm_271 wm_2 wm_272 hd_X6_isReference ⟨rfl, rfl, Nat.le_of_ble_eq_true rfl, Nat.le_of_ble_eq_true rfl⟩ rfl hl.1 (Nat.le_of_ble_eq_true rfl) rfl dX3_walkPattern_87 ⟨Nat.zero_le _, Nat.zero_le _⟩ (fun r29 s27 H locs h28 G => ?_)
        obtain ⟨er29, es27⟩ := h28
        rw [es27] at G
        have hv := hv r29 er29
        obtain ⟨i30, hv⟩ := hv
        refine g_if_eq (tgt := 105) hx hb i30 dX3_walkPattern_90 (by decide) (fun c31 => ?_) (fun c31 => ?_)
        · have hv := hv.1 c31
          refine lv_iload hx hb dX3_walkPattern_105 (lv_at hl 2 rfl) ?_
          refine lv_bipush (v := iz 35) hx hb dX3_walkPattern_107 (by decide +kernel) ?_
          refine g_icmp_ne (tgt := 143) hx hb i20 ⟨by decide, by decide⟩ dX3_walkPattern_109 (by decide) (fun c32 => ?_) (fun c32 => ?_)
          · have hv := hv.1 c32
            refine g_iinc (k := 7) (x := y5) (n := 1) (lv' := [(5, .int (iz (y5 + 1))), (4, .int (iz r25)), (7, .int (iz y4)), (6, .int (iz r19)), (0, .ref (gad w 61)), (1, .int (iz y1)), (2, .int (iz y2)), (3, .int (iz y3))]) hx hb dX3_walkPattern_143 hl rfl (by decide) rfl (fun ls hl => ?_)
            refine lv_goto (tgt := 31) hx hb dX3_walkPattern_146 (by decide) ?_
            exact ih _ _ _ _ _ _ hv G (lv_sub hl [4, 5, 6, 7, 1, 0] rfl)
          · have hv := hv.2 c32
            refine lv_aload_n hx hb dX3_walkPattern_112 rfl (lv_at hl 3 rfl) ?_
            refine g_getR hx hb hts hown 8 74 inlX3 G sh_61 rfl (by decide) rfl wm_93 dX3_walkPattern_113 ?_
            refine lv_iload_n hx hb dX3_walkPattern_116 rfl (lv_at hl 4 rfl) ?_
            obtain ⟨p33, hv⟩ := hv
            refine g_callVi (rest := []) hx hb hml hts hown hNw hA G [.int (iz y1)] (c_X4_get l w σ _ 74 100 ⟨sh_74, sh_75⟩ y1 p33) sh_74 rfl wm_415 wm_134 wm_135 wm_22 wm_136 hd_X4_get ⟨rfl, rfl, Nat.le_of_ble_eq_true rfl, Nat.le_of_ble_eq_true rfl⟩ rfl hl.1 (Nat.le_of_ble_eq_true rfl) rfl dX3_walkPattern_117 ⟨Nat.zero_le _, Nat.zero_le _⟩ (fun r36 s34 H locs h35 G => ?_)
            obtain ⟨er36, es34⟩ := h35
            rw [es34] at G
            have hv := hv r36 er36
            refine lv_iconst (v := iz (-1)) hx hb dX3_walkPattern_120 rfl ?_
            obtain ⟨i37, hv⟩ := hv
            refine g_icmp_ne (tgt := 143) hx hb i37 ⟨by decide, by decide⟩ dX3_walkPattern_121 (by decide) (fun c38 => ?_) (fun c38 => ?_)
            · have hv := hv.1 c38
              refine g_iinc (k := 7) (x := y5) (n := 1) (lv' := [(5, .int (iz (y5 + 1))), (4, .int (iz r25)), (7, .int (iz y4)), (6, .int (iz r19)), (0, .ref (gad w 61)), (1, .int (iz y1)), (2, .int (iz y2)), (3, .int (iz y3))]) hx hb dX3_walkPattern_143 hl rfl (by decide) rfl (fun ls hl => ?_)
              refine lv_goto (tgt := 31) hx hb dX3_walkPattern_146 (by decide) ?_
              exact ih _ _ _ _ _ _ hv G (lv_sub hl [4, 5, 6, 7, 1, 0] rfl)
            · have hv := hv.2 c38
              refine lv_aload_n hx hb dX3_walkPattern_124 rfl (lv_at hl 3 rfl) ?_
              refine g_getR hx hb hts hown 8 74 inlX3 G sh_61 rfl (by decide) rfl wm_93 dX3_walkPattern_125 ?_
              refine lv_iload_n hx hb dX3_walkPattern_128 rfl (lv_at hl 4 rfl) ?_
              refine lv_aload_n hx hb dX3_walkPattern_129 rfl (lv_at hl 3 rfl) ?_
              refine g_getR hx hb hts hown 0 1 inlX3 G sh_61 rfl (by decide) rfl wm_101 dX3_walkPattern_130 ?_
              refine lv_iload hx hb dX3_walkPattern_133 (lv_at hl 1 rfl) ?_
              refine lv_iload hx hb dX3_walkPattern_135 (lv_at hl 0 rfl) ?_
              obtain ⟨p39, hv⟩ := hv
              refine g_callVi (rest := [.int (iz y1), .ref (gad w 74)]) hx hb hml hts hown hNw hA G [.int (iz y4), .int (iz r25)] (c_X5_numberBetween l w σ _ y4 r25 p39) sh_1 rfl wm_435 wm_436 wm_437 wm_14 wm_438 hd_X5_numberBetween ⟨rfl, rfl, Nat.le_of_ble_eq_true rfl, Nat.le_of_ble_eq_true rfl⟩ rfl hl.1 (Nat.le_of_ble_eq_true rfl) rfl dX3_walkPattern_137 ⟨Nat.zero_le _, Nat.zero_le _⟩ (fun r42 s40 H locs h41 G => ?_)
              obtain ⟨er42, es40⟩ := h41
              rw [es40] at G
              have hv := hv r42 er42
              obtain ⟨p43, hv⟩ := hv
              refine g_callVv (rest := []) hx hb hml hts hown hNw hA G [.int (iz y1), .int (iz r42)] (c_X4_set l w σ _ 74 100 ⟨sh_74, sh_75⟩ y1 r42 p43) sh_74 rfl wm_410 wm_138 wm_139 wm_22 wm_140 hd_X4_set ⟨rfl, rfl, Nat.le_of_ble_eq_true rfl, Nat.le_of_ble_eq_true rfl⟩ rfl hl.1 (Nat.le_of_ble_eq_true rfl) rfl dX3_walkPattern_140 ⟨Nat.zero_le _, Nat.zero_le _⟩ (fun s44 H locs h45 G => ?_)
              have hv := hv s44 h45
              refine g_iinc (k := 7) (x := y5) (n := 1) (lv' := [(5, .int (iz (y5 + 1))), (4, .int (iz r25)), (7, .int (iz y4)), (6, .int (iz r19)), (0, .ref (gad w 61)), (1, .int (iz y1)), (2, .int (iz y2)), (3, .int (iz y3))]) hx hb dX3_walkPattern_143 hl rfl (by decide) rfl (fun ls hl => ?_)
              refine lv_goto (tgt := 31) hx hb dX3_walkPattern_146 (by decide) ?_
              exact ih _ _ _ _ _ _ hv G (lv_sub hl [4, 5, 6, 7, 1, 0] rfl)
        · have hv := hv.2 c31
          refine lv_aload_n hx hb dX3_walkPattern_93 rfl (lv_at hl 3 rfl) ?_
          refine lv_iload hx hb dX3_walkPattern_94 (lv_at hl 1 rfl) ?_
          refine lv_iload hx hb dX3_walkPattern_96 (lv_at hl 2 rfl) ?_
          refine lv_bipush (v := iz 65) hx hb dX3_walkPattern_98 (by decide +kernel) ?_
          refine g_isub hx hb dX3_walkPattern_100 ?_
          refine lv_iload_n hx hb dX3_walkPattern_101 rfl (lv_at hl 4 rfl) ?_
          obtain ⟨p46, hv⟩ := hv
          refine g_callVv (rest := []) hx hb hml hts hown hNw hA G [.int (iz y4), .int (iz (r19 - 65)), .int (iz y1)] (c_X3_announce l w σ _ y4 (r19 - 65) y1 p46) sh_61 rfl wm_406 wm_407 wm_408 wm_31 wm_409 hd_X3_announce ⟨rfl, rfl, Nat.le_of_ble_eq_true rfl, Nat.le_of_ble_eq_true rfl⟩ rfl hl.1 (Nat.le_of_ble_eq_true rfl) rfl dX3_walkPattern_102 ⟨Nat.zero_le _, Nat.zero_le _⟩ (fun s47 H locs h48 G => ?_)
          have hv := hv s47 h48
          refine lv_iload hx hb dX3_walkPattern_105 (lv_at hl 2 rfl) ?_
          refine lv_bipush (v := iz 35) hx hb dX3_walkPattern_107 (by decide +kernel) ?_
          refine g_icmp_ne (tgt := 143) hx hb i20 ⟨by decide, by decide⟩ dX3_walkPattern_109 (by decide) (fun c49 => ?_) (fun c49 => ?_)
          · have hv := hv.1 c49
            refine g_iinc (k := 7) (x := y5) (n := 1) (lv' := [(5, .int (iz (y5 + 1))), (4, .int (iz r25)), (7, .int (iz y4)), (6, .int (iz r19)), (0, .ref (gad w 61)), (1, .int (iz y1)), (2, .int (iz y2)), (3, .int (iz y3))]) hx hb dX3_walkPattern_143 hl rfl (by decide) rfl (fun ls hl => ?_)
            refine lv_goto (tgt := 31) hx hb dX3_walkPattern_146 (by decide) ?_
            exact ih _ _ _ _ _ _ hv G (lv_sub hl [4, 5, 6, 7, 1, 0] rfl)
          · have hv := hv.2 c49
            refine lv_aload_n hx hb dX3_walkPattern_112 rfl (lv_at hl 3 rfl) ?_
            refine g_getR hx hb hts hown 8 74 inlX3 G sh_61 rfl (by decide) rfl wm_93 dX3_walkPattern_113 ?_
            refine lv_iload_n hx hb dX3_walkPattern_116 rfl (lv_at hl 4 rfl) ?_
            obtain ⟨p50, hv⟩ := hv
            refine g_callVi (rest := []) hx hb hml hts hown hNw hA G [.int (iz y1)] (c_X4_get l w s47 _ 74 100 ⟨sh_74, sh_75⟩ y1 p50) sh_74 rfl wm_415 wm_134 wm_135 wm_22 wm_136 hd_X4_get ⟨rfl, rfl, Nat.le_of_ble_eq_true rfl, Nat.le_of_ble_eq_true rfl⟩ rfl hl.1 (Nat.le_of_ble_eq_true rfl) rfl dX3_walkPattern_117 ⟨Nat.zero_le _, Nat.zero_le _⟩ (fun r53 s51 H locs h52 G => ?_)
            obtain ⟨er53, es51⟩ := h52
            rw [es51] at G
            have hv := hv r53 er53
            refine lv_iconst (v := iz (-1)) hx hb dX3_walkPattern_120 rfl ?_
            obtain ⟨i54, hv⟩ := hv
            refine g_icmp_ne (tgt := 143) hx hb i54 ⟨by decide, by decide⟩ dX3_walkPattern_121 (by decide) (fun c55 => ?_) (fun c55 => ?_)
            · have hv := hv.1 c55
              refine g_iinc (k := 7) (x := y5) (n := 1) (lv' := [(5, .int (iz (y5 + 1))), (4, .int (iz r25)), (7, .int (iz y4)), (6, .int (iz r19)), (0, .ref (gad w 61)), (1, .int (iz y1)), (2, .int (iz y2)), (3, .int (iz y3))]) hx hb dX3_walkPattern_143 hl rfl (by decide) rfl (fun ls hl => ?_)
              refine lv_goto (tgt := 31) hx hb dX3_walkPattern_146 (by decide) ?_
              exact ih _ _ _ _ _ _ hv G (lv_sub hl [4, 5, 6, 7, 1, 0] rfl)
            · have hv := hv.2 c55
              refine lv_aload_n hx hb dX3_walkPattern_124 rfl (lv_at hl 3 rfl) ?_
              refine g_getR hx hb hts hown 8 74 inlX3 G sh_61 rfl (by decide) rfl wm_93 dX3_walkPattern_125 ?_
              refine lv_iload_n hx hb dX3_walkPattern_128 rfl (lv_at hl 4 rfl) ?_
              refine lv_aload_n hx hb dX3_walkPattern_129 rfl (lv_at hl 3 rfl) ?_
              refine g_getR hx hb hts hown 0 1 inlX3 G sh_61 rfl (by decide) rfl wm_101 dX3_walkPattern_130 ?_
              refine lv_iload hx hb dX3_walkPattern_133 (lv_at hl 1 rfl) ?_
              refine lv_iload hx hb dX3_walkPattern_135 (lv_at hl 0 rfl) ?_
              obtain ⟨p56, hv⟩ := hv
              refine g_callVi (rest := [.int (iz y1), .ref (gad w 74)]) hx hb hml hts hown hNw hA G [.int (iz y4), .int (iz r25)] (c_X5_numberBetween l w s47 _ y4 r25 p56) sh_1 rfl wm_435 wm_436 wm_437 wm_14 wm_438 hd_X5_numberBetween ⟨rfl, rfl, Nat.le_of_ble_eq_true rfl, Nat.le_of_ble_eq_true rfl⟩ rfl hl.1 (Nat.le_of_ble_eq_true rfl) rfl dX3_walkPattern_137 ⟨Nat.zero_le _, Nat.zero_le _⟩ (fun r59 s57 H locs h58 G => ?_)
              obtain ⟨er59, es57⟩ := h58
              rw [es57] at G
              have hv := hv r59 er59
              obtain ⟨p60, hv⟩ := hv
              refine g_callVv (rest := []) hx hb hml hts hown hNw hA G [.int (iz y1), .int (iz r59)] (c_X4_set l w s47 _ 74 100 ⟨sh_74, sh_75⟩ y1 r59 p60) sh_74 rfl wm_410 wm_138 wm_139 wm_22 wm_140 hd_X4_set ⟨rfl, rfl, Nat.le_of_ble_eq_true rfl, Nat.le_of_ble_eq_true rfl⟩ rfl hl.1 (Nat.le_of_ble_eq_true rfl) rfl dX3_walkPattern_140 ⟨Nat.zero_le _, Nat.zero_le _⟩ (fun s61 H locs h62 G => ?_)
              have hv := hv s61 h62
              refine g_iinc (k := 7) (x := y5) (n := 1) (lv' := [(5, .int (iz (y5 + 1))), (4, .int (iz r25)), (7, .int (iz y4)), (6, .int (iz r19)), (0, .ref (gad w 61)), (1, .int (iz y1)), (2, .int (iz y2)), (3, .int (iz y3))]) hx hb dX3_walkPattern_143 hl rfl (by decide) rfl (fun ls hl => ?_)
              refine lv_goto (tgt := 31) hx hb dX3_walkPattern_146 (by decide) ?_
              exact ih _ _ _ _ _ _ hv G (lv_sub hl [4, 5, 6, 7, 1, 0] rfl)
      · have hv := hv.2 c21
        refine lv_aload_n hx hb dX3_walkPattern_60 rfl (lv_at hl 2 rfl) ?_
        refine lv_iload_n hx hb dX3_walkPattern_61 rfl (lv_at hl 3 rfl) ?_
        refine lv_iload hx hb dX3_walkPattern_62 (lv_at hl 7 rfl) ?_
        refine lv_iload hx hb dX3_walkPattern_64 (lv_at hl 0 rfl) ?_
        obtain ⟨p63, hv⟩ := hv
        refine g_callVi (rest := []) hx hb hml hts hown hNw hA G [.int (iz y1), .int (iz y5), .int (iz y4)] (c_X3_walkWater l w σ _ y1 y5 y4 p63) sh_61 rfl wm_426 wm_427 wm_428 wm_31 wm_429 hd_X3_walkWater ⟨rfl, rfl, Nat.le_of_ble_eq_true rfl, Nat.le_of_ble_eq_true rfl⟩ rfl hl.1 (Nat.le_of_ble_eq_true rfl) rfl dX3_walkPattern_66 ⟨Nat.zero_le _, Nat.zero_le _⟩ (fun r66 s64 H locs h65 G => ?_)
        have hv := hv r66 s64 h65
        refine lv_goto (tgt := 83) hx hb dX3_walkPattern_69 (by decide) ?_
        refine lv_istore (lv' := [(4, .int (iz r66)), (7, .int (iz y4)), (6, .int (iz r19)), (0, .ref (gad w 61)), (1, .int (iz y1)), (2, .int (iz y2)), (3, .int (iz y3)), (5, .int (iz y5))]) hx hb dX3_walkPattern_83 hl (by decide) rfl (fun ls hl => ?_)
        refine lv_iload hx hb dX3_walkPattern_85 (lv_at hl 2 rfl) ?_
        obtain ⟨p67, hv⟩ := hv
        refine g_callNi (host := "IslandGrammar") (rest := []) hx hb hml hts hown hNw hA G [.int (iz r19)] (c_X6_isReference l w s64 _ r19 p67) (List.mem_of_getElem? (i := 5) rfl) wm_271 wm_2 wm_272 hd_X6_isReference ⟨rfl, rfl, Nat.le_of_ble_eq_true rfl, Nat.le_of_ble_eq_true rfl⟩ rfl hl.1 (Nat.le_of_ble_eq_true rfl) rfl dX3_walkPattern_87 ⟨Nat.zero_le _, Nat.zero_le _⟩ (fun r70 s68 H locs h69 G => ?_)
        obtain ⟨er70, es68⟩ := h69
        rw [es68] at G
        have hv := hv r70 er70
        obtain ⟨i71, hv⟩ := hv
        refine g_if_eq (tgt := 105) hx hb i71 dX3_walkPattern_90 (by decide) (fun c72 => ?_) (fun c72 => ?_)
        · have hv := hv.1 c72
          refine lv_iload hx hb dX3_walkPattern_105 (lv_at hl 2 rfl) ?_
          refine lv_bipush (v := iz 35) hx hb dX3_walkPattern_107 (by decide +kernel) ?_
          refine g_icmp_ne (tgt := 143) hx hb i20 ⟨by decide, by decide⟩ dX3_walkPattern_109 (by decide) (fun c73 => ?_) (fun c73 => ?_)
          · have hv := hv.1 c73
            refine g_iinc (k := 7) (x := y5) (n := 1) (lv' := [(5, .int (iz (y5 + 1))), (4, .int (iz r66)), (7, .int (iz y4)), (6, .int (iz r19)), (0, .ref (gad w 61)), (1, .int (iz y1)), (2, .int (iz y2)), (3, .int (iz y3))]) hx hb dX3_walkPattern_143 hl rfl (by decide) rfl (fun ls hl => ?_)
            refine lv_goto (tgt := 31) hx hb dX3_walkPattern_146 (by decide) ?_
            exact ih _ _ _ _ _ _ hv G (lv_sub hl [4, 5, 6, 7, 1, 0] rfl)
          · have hv := hv.2 c73
            refine lv_aload_n hx hb dX3_walkPattern_112 rfl (lv_at hl 3 rfl) ?_
            refine g_getR hx hb hts hown 8 74 inlX3 G sh_61 rfl (by decide) rfl wm_93 dX3_walkPattern_113 ?_
            refine lv_iload_n hx hb dX3_walkPattern_116 rfl (lv_at hl 4 rfl) ?_
            obtain ⟨p74, hv⟩ := hv
            refine g_callVi (rest := []) hx hb hml hts hown hNw hA G [.int (iz y1)] (c_X4_get l w s64 _ 74 100 ⟨sh_74, sh_75⟩ y1 p74) sh_74 rfl wm_415 wm_134 wm_135 wm_22 wm_136 hd_X4_get ⟨rfl, rfl, Nat.le_of_ble_eq_true rfl, Nat.le_of_ble_eq_true rfl⟩ rfl hl.1 (Nat.le_of_ble_eq_true rfl) rfl dX3_walkPattern_117 ⟨Nat.zero_le _, Nat.zero_le _⟩ (fun r77 s75 H locs h76 G => ?_)
            obtain ⟨er77, es75⟩ := h76
            rw [es75] at G
            have hv := hv r77 er77
            refine lv_iconst (v := iz (-1)) hx hb dX3_walkPattern_120 rfl ?_
            obtain ⟨i78, hv⟩ := hv
            refine g_icmp_ne (tgt := 143) hx hb i78 ⟨by decide, by decide⟩ dX3_walkPattern_121 (by decide) (fun c79 => ?_) (fun c79 => ?_)
            · have hv := hv.1 c79
              refine g_iinc (k := 7) (x := y5) (n := 1) (lv' := [(5, .int (iz (y5 + 1))), (4, .int (iz r66)), (7, .int (iz y4)), (6, .int (iz r19)), (0, .ref (gad w 61)), (1, .int (iz y1)), (2, .int (iz y2)), (3, .int (iz y3))]) hx hb dX3_walkPattern_143 hl rfl (by decide) rfl (fun ls hl => ?_)
              refine lv_goto (tgt := 31) hx hb dX3_walkPattern_146 (by decide) ?_
              exact ih _ _ _ _ _ _ hv G (lv_sub hl [4, 5, 6, 7, 1, 0] rfl)
            · have hv := hv.2 c79
              refine lv_aload_n hx hb dX3_walkPattern_124 rfl (lv_at hl 3 rfl) ?_
              refine g_getR hx hb hts hown 8 74 inlX3 G sh_61 rfl (by decide) rfl wm_93 dX3_walkPattern_125 ?_
              refine lv_iload_n hx hb dX3_walkPattern_128 rfl (lv_at hl 4 rfl) ?_
              refine lv_aload_n hx hb dX3_walkPattern_129 rfl (lv_at hl 3 rfl) ?_
              refine g_getR hx hb hts hown 0 1 inlX3 G sh_61 rfl (by decide) rfl wm_101 dX3_walkPattern_130 ?_
              refine lv_iload hx hb dX3_walkPattern_133 (lv_at hl 1 rfl) ?_
              refine lv_iload hx hb dX3_walkPattern_135 (lv_at hl 0 rfl) ?_
              obtain ⟨p80, hv⟩ := hv
              refine g_callVi (rest := [.int (iz y1), .ref (gad w 74)]) hx hb hml hts hown hNw hA G [.int (iz y4), .int (iz r66)] (c_X5_numberBetween l w s64 _ y4 r66 p80) sh_1 rfl wm_435 wm_436 wm_437 wm_14 wm_438 hd_X5_numberBetween ⟨rfl, rfl, Nat.le_of_ble_eq_true rfl, Nat.le_of_ble_eq_true rfl⟩ rfl hl.1 (Nat.le_of_ble_eq_true rfl) rfl dX3_walkPattern_137 ⟨Nat.zero_le _, Nat.zero_le _⟩ (fun r83 s81 H locs h82 G => ?_)
              obtain ⟨er83, es81⟩ := h82
              rw [es81] at G
              have hv := hv r83 er83
              obtain ⟨p84, hv⟩ := hv
              refine g_callVv (rest := []) hx hb hml hts hown hNw hA G [.int (iz y1), .int (iz r83)] (c_X4_set l w s64 _ 74 100 ⟨sh_74, sh_75⟩ y1 r83 p84) sh_74 rfl wm_410 wm_138 wm_139 wm_22 wm_140 hd_X4_set ⟨rfl, rfl, Nat.le_of_ble_eq_true rfl, Nat.le_of_ble_eq_true rfl⟩ rfl hl.1 (Nat.le_of_ble_eq_true rfl) rfl dX3_walkPattern_140 ⟨Nat.zero_le _, Nat.zero_le _⟩ (fun s85 H locs h86 G => ?_)
              have hv := hv s85 h86
              refine g_iinc (k := 7) (x := y5) (n := 1) (lv' := [(5, .int (iz (y5 + 1))), (4, .int (iz r66)), (7, .int (iz y4)), (6, .int (iz r19)), (0, .ref (gad w 61)), (1, .int (iz y1)), (2, .int (iz y2)), (3, .int (iz y3))]) hx hb dX3_walkPattern_143 hl rfl (by decide) rfl (fun ls hl => ?_)
              refine lv_goto (tgt := 31) hx hb dX3_walkPattern_146 (by decide) ?_
              exact ih _ _ _ _ _ _ hv G (lv_sub hl [4, 5, 6, 7, 1, 0] rfl)
        · have hv := hv.2 c72
          refine lv_aload_n hx hb dX3_walkPattern_93 rfl (lv_at hl 3 rfl) ?_
          refine lv_iload hx hb dX3_walkPattern_94 (lv_at hl 1 rfl) ?_
          refine lv_iload hx hb dX3_walkPattern_96 (lv_at hl 2 rfl) ?_
          refine lv_bipush (v := iz 65) hx hb dX3_walkPattern_98 (by decide +kernel) ?_
          refine g_isub hx hb dX3_walkPattern_100 ?_
          refine lv_iload_n hx hb dX3_walkPattern_101 rfl (lv_at hl 4 rfl) ?_
          obtain ⟨p87, hv⟩ := hv
          refine g_callVv (rest := []) hx hb hml hts hown hNw hA G [.int (iz y4), .int (iz (r19 - 65)), .int (iz y1)] (c_X3_announce l w s64 _ y4 (r19 - 65) y1 p87) sh_61 rfl wm_406 wm_407 wm_408 wm_31 wm_409 hd_X3_announce ⟨rfl, rfl, Nat.le_of_ble_eq_true rfl, Nat.le_of_ble_eq_true rfl⟩ rfl hl.1 (Nat.le_of_ble_eq_true rfl) rfl dX3_walkPattern_102 ⟨Nat.zero_le _, Nat.zero_le _⟩ (fun s88 H locs h89 G => ?_)
          have hv := hv s88 h89
          refine lv_iload hx hb dX3_walkPattern_105 (lv_at hl 2 rfl) ?_
          refine lv_bipush (v := iz 35) hx hb dX3_walkPattern_107 (by decide +kernel) ?_
          refine g_icmp_ne (tgt := 143) hx hb i20 ⟨by decide, by decide⟩ dX3_walkPattern_109 (by decide) (fun c90 => ?_) (fun c90 => ?_)
          · have hv := hv.1 c90
            refine g_iinc (k := 7) (x := y5) (n := 1) (lv' := [(5, .int (iz (y5 + 1))), (4, .int (iz r66)), (7, .int (iz y4)), (6, .int (iz r19)), (0, .ref (gad w 61)), (1, .int (iz y1)), (2, .int (iz y2)), (3, .int (iz y3))]) hx hb dX3_walkPattern_143 hl rfl (by decide) rfl (fun ls hl => ?_)
            refine lv_goto (tgt := 31) hx hb dX3_walkPattern_146 (by decide) ?_
            exact ih _ _ _ _ _ _ hv G (lv_sub hl [4, 5, 6, 7, 1, 0] rfl)
          · have hv := hv.2 c90
            refine lv_aload_n hx hb dX3_walkPattern_112 rfl (lv_at hl 3 rfl) ?_
            refine g_getR hx hb hts hown 8 74 inlX3 G sh_61 rfl (by decide) rfl wm_93 dX3_walkPattern_113 ?_
            refine lv_iload_n hx hb dX3_walkPattern_116 rfl (lv_at hl 4 rfl) ?_
            obtain ⟨p91, hv⟩ := hv
            refine g_callVi (rest := []) hx hb hml hts hown hNw hA G [.int (iz y1)] (c_X4_get l w s88 _ 74 100 ⟨sh_74, sh_75⟩ y1 p91) sh_74 rfl wm_415 wm_134 wm_135 wm_22 wm_136 hd_X4_get ⟨rfl, rfl, Nat.le_of_ble_eq_true rfl, Nat.le_of_ble_eq_true rfl⟩ rfl hl.1 (Nat.le_of_ble_eq_true rfl) rfl dX3_walkPattern_117 ⟨Nat.zero_le _, Nat.zero_le _⟩ (fun r94 s92 H locs h93 G => ?_)
            obtain ⟨er94, es92⟩ := h93
            rw [es92] at G
            have hv := hv r94 er94
            refine lv_iconst (v := iz (-1)) hx hb dX3_walkPattern_120 rfl ?_
            obtain ⟨i95, hv⟩ := hv
            refine g_icmp_ne (tgt := 143) hx hb i95 ⟨by decide, by decide⟩ dX3_walkPattern_121 (by decide) (fun c96 => ?_) (fun c96 => ?_)
            · have hv := hv.1 c96
              refine g_iinc (k := 7) (x := y5) (n := 1) (lv' := [(5, .int (iz (y5 + 1))), (4, .int (iz r66)), (7, .int (iz y4)), (6, .int (iz r19)), (0, .ref (gad w 61)), (1, .int (iz y1)), (2, .int (iz y2)), (3, .int (iz y3))]) hx hb dX3_walkPattern_143 hl rfl (by decide) rfl (fun ls hl => ?_)
              refine lv_goto (tgt := 31) hx hb dX3_walkPattern_146 (by decide) ?_
              exact ih _ _ _ _ _ _ hv G (lv_sub hl [4, 5, 6, 7, 1, 0] rfl)
            · have hv := hv.2 c96
              refine lv_aload_n hx hb dX3_walkPattern_124 rfl (lv_at hl 3 rfl) ?_
              refine g_getR hx hb hts hown 8 74 inlX3 G sh_61 rfl (by decide) rfl wm_93 dX3_walkPattern_125 ?_
              refine lv_iload_n hx hb dX3_walkPattern_128 rfl (lv_at hl 4 rfl) ?_
              refine lv_aload_n hx hb dX3_walkPattern_129 rfl (lv_at hl 3 rfl) ?_
              refine g_getR hx hb hts hown 0 1 inlX3 G sh_61 rfl (by decide) rfl wm_101 dX3_walkPattern_130 ?_
              refine lv_iload hx hb dX3_walkPattern_133 (lv_at hl 1 rfl) ?_
              refine lv_iload hx hb dX3_walkPattern_135 (lv_at hl 0 rfl) ?_
              obtain ⟨p97, hv⟩ := hv
              refine g_callVi (rest := [.int (iz y1), .ref (gad w 74)]) hx hb hml hts hown hNw hA G [.int (iz y4), .int (iz r66)] (c_X5_numberBetween l w s88 _ y4 r66 p97) sh_1 rfl wm_435 wm_436 wm_437 wm_14 wm_438 hd_X5_numberBetween ⟨rfl, rfl, Nat.le_of_ble_eq_true rfl, Nat.le_of_ble_eq_true rfl⟩ rfl hl.1 (Nat.le_of_ble_eq_true rfl) rfl dX3_walkPattern_137 ⟨Nat.zero_le _, Nat.zero_le _⟩ (fun r100 s98 H locs h99 G => ?_)
              obtain ⟨er100, es98⟩ := h99
              rw [es98] at G
              have hv := hv r100 er100
              obtain ⟨p101, hv⟩ := hv
              refine g_callVv (rest := []) hx hb hml hts hown hNw hA G [.int (iz y1), .int (iz r100)] (c_X4_set l w s88 _ 74 100 ⟨sh_74, sh_75⟩ y1 r100 p101) sh_74 rfl wm_410 wm_138 wm_139 wm_22 wm_140 hd_X4_set ⟨rfl, rfl, Nat.le_of_ble_eq_true rfl, Nat.le_of_ble_eq_true rfl⟩ rfl hl.1 (Nat.le_of_ble_eq_true rfl) rfl dX3_walkPattern_140 ⟨Nat.zero_le _, Nat.zero_le _⟩ (fun s102 H locs h103 G => ?_)
              have hv := hv s102 h103
              refine g_iinc (k := 7) (x := y5) (n := 1) (lv' := [(5, .int (iz (y5 + 1))), (4, .int (iz r66)), (7, .int (iz y4)), (6, .int (iz r19)), (0, .ref (gad w 61)), (1, .int (iz y1)), (2, .int (iz y2)), (3, .int (iz y3))]) hx hb dX3_walkPattern_143 hl rfl (by decide) rfl (fun ls hl => ?_)
              refine lv_goto (tgt := 31) hx hb dX3_walkPattern_146 (by decide) ?_
              exact ih _ _ _ _ _ _ hv G (lv_sub hl [4, 5, 6, 7, 1, 0] rfl)
set_option maxHeartbeats 4000000 in
set_option maxRecDepth 100000 in
theorem c_X3_walkPattern (l : Launch) (w : GW) (σ : St) (sz : Nat) (x1 : Int) (hp : pre_X3_walkPattern x1 σ) : Met l yX3_walkPattern (Cond.code yX3_walkPattern cX3_walkPattern 8 none :: wsL_law) rm_X3_walkPattern (gPc w gSL σ sz [.ref (gad w 61), .int (iz x1)]) (gQv w gSL sz (post_X3_walkPattern x1 σ)) 0 0 (gA w gSL.length sz) := by
  have hv : V_X3_walkPattern x1 σ (post_X3_walkPattern x1 σ) := v_X3_walkPattern x1 σ hp
  refine g_met (by decide) [.ref (gad w 61), .int (iz x1)] (Nat.le_of_ble_eq_true rfl) ?_
  intro p e s m below meth c ls hz C0 hl G
  obtain ⟨hx, hb, hr, hml, hown, hts, hlk, hNw, hA⟩ := id C0
  have hown : s.vm.findClass RX3 = some m.cls := hown
  have hl : lv_has ls 8 [(0, .ref (gad w 61)), (1, .int (iz x1))] := hl
  refine lv_aload_n hx hb dX3_walkPattern_0 rfl (lv_at hl 0 rfl) ?_
  refine g_getR hx hb hts hown 2 62 inlX3 G sh_61 rfl (by decide) rfl wm_87 dX3_walkPattern_1 ?_
  refine lv_iload_n hx hb dX3_walkPattern_4 rfl (lv_at hl 1 rfl) ?_
  obtain ⟨p1, hv⟩ := hv
  refine g_callVi (rest := []) hx hb hml hts hown hNw hA G [.int (iz x1)] (c_X4_get l w σ _ 62 100 ⟨sh_62, sh_63⟩ x1 p1) sh_62 rfl wm_415 wm_134 wm_135 wm_22 wm_136 hd_X4_get ⟨rfl, rfl, Nat.le_of_ble_eq_true rfl, Nat.le_of_ble_eq_true rfl⟩ rfl hl.1 (Nat.le_of_ble_eq_true rfl) rfl dX3_walkPattern_5 ⟨Nat.zero_le _, Nat.zero_le _⟩ (fun r4 s2 H locs h3 G => ?_)
  obtain ⟨er4, es2⟩ := h3
  rw [es2] at G
  have hv := hv r4 er4
  refine lv_istore_n (lv' := [(2, .int (iz r4)), (0, .ref (gad w 61)), (1, .int (iz x1))]) hx hb dX3_walkPattern_8 rfl hl (by decide) rfl (fun ls hl => ?_)
  refine lv_aload_n hx hb dX3_walkPattern_9 rfl (lv_at hl 1 rfl) ?_
  refine g_getR hx hb hts hown 0 1 inlX3 G sh_61 rfl (by decide) rfl wm_101 dX3_walkPattern_10 ?_
  refine lv_iload_n hx hb dX3_walkPattern_13 rfl (lv_at hl 0 rfl) ?_
  obtain ⟨p5, hv⟩ := hv
  refine g_callVi (rest := []) hx hb hml hts hown hNw hA G [.int (iz r4)] (c_X5_patternSize l w σ _ r4 p5) sh_1 rfl wm_424 wm_292 wm_293 wm_14 wm_294 hd_X5_patternSize ⟨rfl, rfl, Nat.le_of_ble_eq_true rfl, Nat.le_of_ble_eq_true rfl⟩ rfl hl.1 (Nat.le_of_ble_eq_true rfl) rfl dX3_walkPattern_14 ⟨Nat.zero_le _, Nat.zero_le _⟩ (fun r8 s6 H locs h7 G => ?_)
  obtain ⟨er8, es6⟩ := h7
  rw [es6] at G
  have hv := hv r8 er8
  refine lv_istore_n (lv' := [(3, .int (iz r8)), (2, .int (iz r4)), (0, .ref (gad w 61)), (1, .int (iz x1))]) hx hb dX3_walkPattern_17 rfl hl (by decide) rfl (fun ls hl => ?_)
  refine lv_aload_n hx hb dX3_walkPattern_18 rfl (lv_at hl 2 rfl) ?_
  refine g_getR hx hb hts hown 3 64 inlX3 G sh_61 rfl (by decide) rfl wm_88 dX3_walkPattern_19 ?_
  refine lv_iload_n hx hb dX3_walkPattern_22 rfl (lv_at hl 3 rfl) ?_
  obtain ⟨p9, hv⟩ := hv
  refine g_callVi (rest := []) hx hb hml hts hown hNw hA G [.int (iz x1)] (c_X4_get l w σ _ 64 100 ⟨sh_64, sh_65⟩ x1 p9) sh_64 rfl wm_415 wm_134 wm_135 wm_22 wm_136 hd_X4_get ⟨rfl, rfl, Nat.le_of_ble_eq_true rfl, Nat.le_of_ble_eq_true rfl⟩ rfl hl.1 (Nat.le_of_ble_eq_true rfl) rfl dX3_walkPattern_23 ⟨Nat.zero_le _, Nat.zero_le _⟩ (fun r12 s10 H locs h11 G => ?_)
  obtain ⟨er12, es10⟩ := h11
  rw [es10] at G
  have hv := hv r12 er12
  refine lv_istore (lv' := [(4, .int (iz r12)), (3, .int (iz r8)), (2, .int (iz r4)), (0, .ref (gad w 61)), (1, .int (iz x1))]) hx hb dX3_walkPattern_26 hl (by decide) rfl (fun ls hl => ?_)
  refine lv_iconst (v := iz 0) hx hb dX3_walkPattern_28 rfl ?_
  refine lv_istore (lv' := [(5, .int (iz 0)), (4, .int (iz r12)), (3, .int (iz r8)), (2, .int (iz r4)), (0, .ref (gad w 61)), (1, .int (iz x1))]) hx hb dX3_walkPattern_29 hl (by decide) rfl (fun ls hl => ?_)
  obtain ⟨n_, hv⟩ := hv
  exact lw_X3_walkPattern_31 (l := l) (p := p) (e := e) hz C0 _ x1 r4 r8 n_ _ _ _ _ _ _ hv G (lv_sub hl [4, 5, 3, 2, 1, 0] rfl)
abbrev rm_X3_update : Room := ({ frames := 4, cells := 0, slots := 0, locals := 101 } : Room)
theorem hd_X3_update : yX3_update.cls = RX3 ∧ yX3_update.cls ≠ "java/lang/invoke/MethodHandle" ∧ yX3_update.cls ≠ "java/lang/invoke/VarHandle" ∧ (parseMethodDescriptor yX3_update.desc).map (fun d => d.parameters.length) = some 0 := ⟨rfl, by decide +kernel, by decide +kernel, by decide +kernel⟩
set_option maxHeartbeats 4000000 in
set_option maxRecDepth 100000 in
theorem lw_X3_update_16 {p : Program} {l : Launch} {e : Env} {s : State} {m : MethodId} {args : Array Value} {below : List Frame} {meth : Method} {c : Code} {w : GW} {sz : Nat} (hz : s.heap.size = sz) (C0 : gC p s m args meth c cX3_update none 4 yX3_update.cls (gA w gSL.length sz)) (Q : St → Prop) (y2 : Int) : ∀ (n : Nat) (y1 y3 : Int) (σ : St) (H : Heap) (locs : List Loc) (ls : Array Slot), L_X3_update_16 Q y2 n y1 y3 σ → gS w gSL σ (gA w gSL.length sz) s s.heap H locs → lv_has ls 4 [(0, .ref (gad w 61)), (1, .int (iz y1)), (2, .int (iz y2)), (3, .int (iz y3))] → W p l e rm_X3_update s m args below meth c H locs 0 0 (MQ below (gQv w gSL sz Q) args s 0 0 (gA w gSL.length sz)) (F0 m 16 ls []) := by
  obtain ⟨hx, hb, hr, hml, hown, hts, hlk, hNw, hA⟩ := id C0
  have hown : s.vm.findClass RX3 = some m.cls := hown
  intro n
  induction n with
  | zero => intro y1 y3 σ H locs ls hv; exact hv.elim
  | succ n ih =>
    intro y1 y3 σ H locs ls hv G hl
    refine lv_iload_n hx hb dX3_update_16 rfl (lv_at hl 3 rfl) ?_
    refine lv_iload_n hx hb dX3_update_17 rfl (lv_at hl 2 rfl) ?_
    obtain ⟨i8, hv⟩ := hv
    obtain ⟨i9, hv⟩ := hv
    refine g_icmp_ge (tgt := 65) hx hb i8 i9 dX3_update_18 (by decide) (fun c10 => ?_) (fun c10 => ?_)
    · have hv := hv.1 c10
      exact g_vret hx hb hr hlk hz G hv dX3_update_65
    · have hv := hv.2 c10
      refine lv_iload_n hx hb dX3_update_21 rfl (lv_at hl 3 rfl) ?_
      refine lv_iload_n hx hb dX3_update_22 rfl (lv_at hl 1 rfl) ?_
      obtain ⟨i11, hv⟩ := hv
      refine g_icmp_ne (tgt := 32) hx hb i8 i11 dX3_update_23 (by decide) (fun c12 => ?_) (fun c12 => ?_)
      · have hv := hv.1 c12
        refine lv_aload_n hx hb dX3_update_32 rfl (lv_at hl 0 rfl) ?_
        refine g_getR hx hb hts hown 9 76 inlX3 G sh_61 rfl (by decide) rfl wm_94 dX3_update_33 ?_
        refine lv_iload_n hx hb dX3_update_36 rfl (lv_at hl 3 rfl) ?_
        obtain ⟨p13, hv⟩ := hv
        refine g_callVi (rest := []) hx hb hml hts hown hNw hA G [.int (iz y3)] (c_X4_get l w σ _ 76 100 ⟨sh_76, sh_77⟩ y3 p13) sh_76 rfl wm_415 wm_134 wm_135 wm_22 wm_136 hd_X4_get ⟨rfl, rfl, Nat.le_of_ble_eq_true rfl, Nat.le_of_ble_eq_true rfl⟩ rfl hl.1 (Nat.le_of_ble_eq_true rfl) rfl dX3_update_37 ⟨Nat.zero_le _, Nat.zero_le _⟩ (fun r16 s14 H locs h15 G => ?_)
        obtain ⟨er16, es14⟩ := h15
        rw [es14] at G
        have hv := hv r16 er16
        refine lv_iconst (v := iz (-1)) hx hb dX3_update_40 rfl ?_
        obtain ⟨i17, hv⟩ := hv
        refine g_icmp_eq (tgt := 59) hx hb i17 ⟨by decide, by decide⟩ dX3_update_41 (by decide) (fun c18 => ?_) (fun c18 => ?_)
        · have hv := hv.1 c18
          refine g_iinc (k := 3) (x := y3) (n := 1) (lv' := [(3, .int (iz (y3 + 1))), (0, .ref (gad w 61)), (1, .int (iz y1)), (2, .int (iz y2))]) hx hb dX3_update_59 hl rfl (by decide) rfl (fun ls hl => ?_)
          refine lv_goto (tgt := 16) hx hb dX3_update_62 (by decide) ?_
          exact ih _ _ _ _ _ _ hv G (lv_sub hl [1, 2, 3, 0] rfl)
        · have hv := hv.2 c18
          refine lv_aload_n hx hb dX3_update_44 rfl (lv_at hl 0 rfl) ?_
          refine lv_iload_n hx hb dX3_update_45 rfl (lv_at hl 3 rfl) ?_
          obtain ⟨p19, hv⟩ := hv
          refine g_callVv (rest := []) hx hb hml hts hown hNw hA G [.int (iz y3)] (c_X3_addNode l w σ _ y3 p19) sh_61 rfl wm_416 wm_417 wm_418 wm_31 wm_419 hd_X3_addNode ⟨rfl, rfl, Nat.le_of_ble_eq_true rfl, Nat.le_of_ble_eq_true rfl⟩ rfl hl.1 (Nat.le_of_ble_eq_true rfl) rfl dX3_update_46 ⟨Nat.zero_le _, Nat.zero_le _⟩ (fun s20 H locs h21 G => ?_)
          have hv := hv s20 h21
          refine lv_aload_n hx hb dX3_update_49 rfl (lv_at hl 0 rfl) ?_
          refine lv_aload_n hx hb dX3_update_50 rfl (lv_at hl 0 rfl) ?_
          refine g_getI hx hb hts hown 11 inlX3 G sh_61 rfl (by decide) rfl wm_96 dX3_update_51 ?_
          refine lv_iconst (v := iz 1) hx hb dX3_update_54 rfl ?_
          refine g_isub hx hb dX3_update_55 ?_
          obtain ⟨p22, hv⟩ := hv
          refine g_callVv (rest := []) hx hb hml hts hown hNw hA G [.int (iz ((s20 61 11) - 1))] (c_X3_walkPattern l w s20 _ ((s20 61 11) - 1) p22) sh_61 rfl wm_420 wm_421 wm_422 wm_31 wm_423 hd_X3_walkPattern ⟨rfl, rfl, Nat.le_of_ble_eq_true rfl, Nat.le_of_ble_eq_true rfl⟩ rfl hl.1 (Nat.le_of_ble_eq_true rfl) rfl dX3_update_56 ⟨Nat.zero_le _, Nat.zero_le _⟩ (fun s23 H locs h24 G => ?_)
          have hv := hv s23 h24
          refine g_iinc (k := 3) (x := y3) (n := 1) (lv' := [(3, .int (iz (y3 + 1))), (0, .ref (gad w 61)), (1, .int (iz y1)), (2, .int (iz y2))]) hx hb dX3_update_59 hl rfl (by decide) rfl (fun ls hl => ?_)
          refine lv_goto (tgt := 16) hx hb dX3_update_62 (by decide) ?_
          exact ih _ _ _ _ _ _ hv G (lv_sub hl [1, 2, 3, 0] rfl)
      · have hv := hv.2 c12
        refine lv_aload_n hx hb dX3_update_26 rfl (lv_at hl 0 rfl) ?_
        refine lv_iload_n hx hb dX3_update_27 rfl (lv_at hl 3 rfl) ?_
        obtain ⟨p25, hv⟩ := hv
        refine g_callVi (rest := []) hx hb hml hts hown hNw hA G [.int (iz y3)] (c_X3_takeTopLevel l w σ _ y3 p25) sh_61 rfl wm_395 wm_396 wm_397 wm_31 wm_398 hd_X3_takeTopLevel ⟨rfl, rfl, Nat.le_of_ble_eq_true rfl, Nat.le_of_ble_eq_true rfl⟩ rfl hl.1 (Nat.le_of_ble_eq_true rfl) rfl dX3_update_28 ⟨Nat.zero_le _, Nat.zero_le _⟩ (fun r28 s26 H locs h27 G => ?_)
        have hv := hv r28 h27.1 s26 h27.2
        refine lv_istore_n (lv' := [(1, .int (iz r28)), (0, .ref (gad w 61)), (2, .int (iz y2)), (3, .int (iz y3))]) hx hb dX3_update_31 rfl hl (by decide) rfl (fun ls hl => ?_)
        refine lv_aload_n hx hb dX3_update_32 rfl (lv_at hl 1 rfl) ?_
        refine g_getR hx hb hts hown 9 76 inlX3 G sh_61 rfl (by decide) rfl wm_94 dX3_update_33 ?_
        refine lv_iload_n hx hb dX3_update_36 rfl (lv_at hl 3 rfl) ?_
        obtain ⟨p29, hv⟩ := hv
        refine g_callVi (rest := []) hx hb hml hts hown hNw hA G [.int (iz y3)] (c_X4_get l w s26 _ 76 100 ⟨sh_76, sh_77⟩ y3 p29) sh_76 rfl wm_415 wm_134 wm_135 wm_22 wm_136 hd_X4_get ⟨rfl, rfl, Nat.le_of_ble_eq_true rfl, Nat.le_of_ble_eq_true rfl⟩ rfl hl.1 (Nat.le_of_ble_eq_true rfl) rfl dX3_update_37 ⟨Nat.zero_le _, Nat.zero_le _⟩ (fun r32 s30 H locs h31 G => ?_)
        obtain ⟨er32, es30⟩ := h31
        rw [es30] at G
        have hv := hv r32 er32
        refine lv_iconst (v := iz (-1)) hx hb dX3_update_40 rfl ?_
        obtain ⟨i33, hv⟩ := hv
        refine g_icmp_eq (tgt := 59) hx hb i33 ⟨by decide, by decide⟩ dX3_update_41 (by decide) (fun c34 => ?_) (fun c34 => ?_)
        · have hv := hv.1 c34
          refine g_iinc (k := 3) (x := y3) (n := 1) (lv' := [(3, .int (iz (y3 + 1))), (1, .int (iz r28)), (0, .ref (gad w 61)), (2, .int (iz y2))]) hx hb dX3_update_59 hl rfl (by decide) rfl (fun ls hl => ?_)
          refine lv_goto (tgt := 16) hx hb dX3_update_62 (by decide) ?_
          exact ih _ _ _ _ _ _ hv G (lv_sub hl [2, 1, 3, 0] rfl)
        · have hv := hv.2 c34
          refine lv_aload_n hx hb dX3_update_44 rfl (lv_at hl 1 rfl) ?_
          refine lv_iload_n hx hb dX3_update_45 rfl (lv_at hl 3 rfl) ?_
          obtain ⟨p35, hv⟩ := hv
          refine g_callVv (rest := []) hx hb hml hts hown hNw hA G [.int (iz y3)] (c_X3_addNode l w s26 _ y3 p35) sh_61 rfl wm_416 wm_417 wm_418 wm_31 wm_419 hd_X3_addNode ⟨rfl, rfl, Nat.le_of_ble_eq_true rfl, Nat.le_of_ble_eq_true rfl⟩ rfl hl.1 (Nat.le_of_ble_eq_true rfl) rfl dX3_update_46 ⟨Nat.zero_le _, Nat.zero_le _⟩ (fun s36 H locs h37 G => ?_)
          have hv := hv s36 h37
          refine lv_aload_n hx hb dX3_update_49 rfl (lv_at hl 1 rfl) ?_
          refine lv_aload_n hx hb dX3_update_50 rfl (lv_at hl 1 rfl) ?_
          refine g_getI hx hb hts hown 11 inlX3 G sh_61 rfl (by decide) rfl wm_96 dX3_update_51 ?_
          refine lv_iconst (v := iz 1) hx hb dX3_update_54 rfl ?_
          refine g_isub hx hb dX3_update_55 ?_
          obtain ⟨p38, hv⟩ := hv
          refine g_callVv (rest := []) hx hb hml hts hown hNw hA G [.int (iz ((s36 61 11) - 1))] (c_X3_walkPattern l w s36 _ ((s36 61 11) - 1) p38) sh_61 rfl wm_420 wm_421 wm_422 wm_31 wm_423 hd_X3_walkPattern ⟨rfl, rfl, Nat.le_of_ble_eq_true rfl, Nat.le_of_ble_eq_true rfl⟩ rfl hl.1 (Nat.le_of_ble_eq_true rfl) rfl dX3_update_56 ⟨Nat.zero_le _, Nat.zero_le _⟩ (fun s39 H locs h40 G => ?_)
          have hv := hv s39 h40
          refine g_iinc (k := 3) (x := y3) (n := 1) (lv' := [(3, .int (iz (y3 + 1))), (1, .int (iz r28)), (0, .ref (gad w 61)), (2, .int (iz y2))]) hx hb dX3_update_59 hl rfl (by decide) rfl (fun ls hl => ?_)
          refine lv_goto (tgt := 16) hx hb dX3_update_62 (by decide) ?_
          exact ih _ _ _ _ _ _ hv G (lv_sub hl [2, 1, 3, 0] rfl)
set_option maxHeartbeats 4000000 in
set_option maxRecDepth 100000 in
theorem c_X3_update (l : Launch) (w : GW) (σ : St) (sz : Nat) (hp : pre_X3_update σ) : Met l yX3_update (Cond.code yX3_update cX3_update 4 none :: wsL_law) rm_X3_update (gPc w gSL σ sz [.ref (gad w 61)]) (gQv w gSL sz (post_X3_update σ)) 0 0 (gA w gSL.length sz) := by
  have hv : V_X3_update σ (post_X3_update σ) := v_X3_update σ hp
  refine g_met (by decide) [.ref (gad w 61)] (Nat.le_of_ble_eq_true rfl) ?_
  intro p e s m below meth c ls hz C0 hl G
  obtain ⟨hx, hb, hr, hml, hown, hts, hlk, hNw, hA⟩ := id C0
  have hown : s.vm.findClass RX3 = some m.cls := hown
  have hl : lv_has ls 4 [(0, .ref (gad w 61))] := hl
  refine lv_aload_n hx hb dX3_update_0 rfl (lv_at hl 0 rfl) ?_
  obtain ⟨p1, hv⟩ := hv
  refine g_callVv (rest := []) hx hb hml hts hown hNw hA G [] (c_X3_clear l w σ _ p1) sh_61 rfl wm_389 wm_390 wm_391 wm_31 wm_392 hd_X3_clear ⟨rfl, rfl, Nat.le_of_ble_eq_true rfl, Nat.le_of_ble_eq_true rfl⟩ rfl hl.1 (Nat.le_of_ble_eq_true rfl) rfl dX3_update_1 ⟨Nat.zero_le _, Nat.zero_le _⟩ (fun s2 H locs h3 G => ?_)
  have hv := hv s2 h3
  refine lv_iconst (v := iz 0) hx hb dX3_update_4 rfl ?_
  refine lv_istore_n (lv' := [(1, .int (iz 0)), (0, .ref (gad w 61))]) hx hb dX3_update_5 rfl hl (by decide) rfl (fun ls hl => ?_)
  refine lv_aload_n hx hb dX3_update_6 rfl (lv_at hl 1 rfl) ?_
  refine g_getR hx hb hts hown 0 1 inlX3 G sh_61 rfl (by decide) rfl wm_101 dX3_update_7 ?_
  obtain ⟨p4, hv⟩ := hv
  refine g_callVi (rest := []) hx hb hml hts hown hNw hA G [] (c_X5_textSize l w s2 _ p4) sh_1 rfl wm_394 wm_123 wm_124 wm_14 wm_125 hd_X5_textSize ⟨rfl, rfl, Nat.le_of_ble_eq_true rfl, Nat.le_of_ble_eq_true rfl⟩ rfl hl.1 (Nat.le_of_ble_eq_true rfl) rfl dX3_update_10 ⟨Nat.zero_le _, Nat.zero_le _⟩ (fun r7 s5 H locs h6 G => ?_)
  obtain ⟨er7, es5⟩ := h6
  rw [es5] at G
  have hv := hv r7 er7
  refine lv_istore_n (lv' := [(2, .int (iz r7)), (1, .int (iz 0)), (0, .ref (gad w 61))]) hx hb dX3_update_13 rfl hl (by decide) rfl (fun ls hl => ?_)
  refine lv_iconst (v := iz 0) hx hb dX3_update_14 rfl ?_
  refine lv_istore_n (lv' := [(3, .int (iz 0)), (2, .int (iz r7)), (1, .int (iz 0)), (0, .ref (gad w 61))]) hx hb dX3_update_15 rfl hl (by decide) rfl (fun ls hl => ?_)
  obtain ⟨n_, hv⟩ := hv
  exact lw_X3_update_16 (l := l) (p := p) (e := e) hz C0 _ r7 n_ _ _ _ _ _ _ hv G (lv_sub hl [3, 2, 1, 0] rfl)
abbrev rm_X6_refresh : Room := ({ frames := 5, cells := 0, slots := 0, locals := 124 } : Room)
theorem hd_X6_refresh : yX6_refresh.cls = RX6 ∧ yX6_refresh.cls ≠ "java/lang/invoke/MethodHandle" ∧ yX6_refresh.cls ≠ "java/lang/invoke/VarHandle" ∧ (parseMethodDescriptor yX6_refresh.desc).map (fun d => d.parameters.length) = some 0 := ⟨rfl, by decide +kernel, by decide +kernel, by decide +kernel⟩
set_option maxHeartbeats 4000000 in
set_option maxRecDepth 100000 in
theorem c_X6_refresh (l : Launch) (w : GW) (σ : St) (sz : Nat) (hp : pre_X6_refresh σ) : Met l yX6_refresh (Cond.code yX6_refresh cX6_refresh 1 none :: wsL_law) rm_X6_refresh (gPc w gSL σ sz [.ref (gad w 0)]) (gQv w gSL sz (post_X6_refresh σ)) 0 0 (gA w gSL.length sz) := by
  have hv : V_X6_refresh σ (post_X6_refresh σ) := v_X6_refresh σ hp
  refine g_met (by decide) [.ref (gad w 0)] (Nat.le_of_ble_eq_true rfl) ?_
  intro p e s m below meth c ls hz C0 hl G
  obtain ⟨hx, hb, hr, hml, hown, hts, hlk, hNw, hA⟩ := id C0
  have hown : s.vm.findClass RX6 = some m.cls := hown
  have hl : lv_has ls 1 [(0, .ref (gad w 0))] := hl
  refine lv_aload_n hx hb dX6_refresh_0 rfl (lv_at hl 0 rfl) ?_
  refine g_getI hx hb hts hown 7 inlX6 G sh_0 rfl (by decide) rfl wm_34 dX6_refresh_1 ?_
  obtain ⟨i1, hv⟩ := hv
  refine g_if_eq (tgt := 26) hx hb i1 dX6_refresh_4 (by decide) (fun c2 => ?_) (fun c2 => ?_)
  · have hv := hv.1 c2
    exact g_vret hx hb hr hlk hz G hv dX6_refresh_26
  · have hv := hv.2 c2
    refine lv_aload_n hx hb dX6_refresh_7 rfl (lv_at hl 0 rfl) ?_
    refine g_getR hx hb hts hown 4 52 inlX6 G sh_0 rfl (by decide) rfl wm_28 dX6_refresh_8 ?_
    obtain ⟨p3, hv⟩ := hv
    refine g_callVv (rest := []) hx hb hml hts hown hNw hA G [] (c_X2_update l w σ _ p3) sh_52 rfl wm_339 wm_340 wm_341 wm_27 wm_342 hd_X2_update ⟨rfl, rfl, Nat.le_of_ble_eq_true rfl, Nat.le_of_ble_eq_true rfl⟩ rfl hl.1 (Nat.le_of_ble_eq_true rfl) rfl dX6_refresh_11 ⟨Nat.zero_le _, Nat.zero_le _⟩ (fun s4 H locs h5 G => ?_)
    have hv := hv s4 h5
    refine lv_aload_n hx hb dX6_refresh_14 rfl (lv_at hl 0 rfl) ?_
    refine g_getR hx hb hts hown 5 61 inlX6 G sh_0 rfl (by decide) rfl wm_32 dX6_refresh_15 ?_
    obtain ⟨p6, hv⟩ := hv
    refine g_callVv (rest := []) hx hb hml hts hown hNw hA G [] (c_X3_update l w s4 _ p6) sh_61 rfl wm_385 wm_386 wm_387 wm_31 wm_388 hd_X3_update ⟨rfl, rfl, Nat.le_of_ble_eq_true rfl, Nat.le_of_ble_eq_true rfl⟩ rfl hl.1 (Nat.le_of_ble_eq_true rfl) rfl dX6_refresh_18 ⟨Nat.zero_le _, Nat.zero_le _⟩ (fun s7 H locs h8 G => ?_)
    have hv := hv s7 h8
    refine lv_aload_n hx hb dX6_refresh_21 rfl (lv_at hl 0 rfl) ?_
    refine lv_iconst (v := iz 0) hx hb dX6_refresh_22 rfl ?_
    refine g_putI hx hb hts hown 7 inlX6 tyX6 tyX6_ok nmX6 G sh_0 rfl (by decide) rfl wm_34 rfl rfl rfl dX6_refresh_23 (fun s9 es9 H locs G => ?_)
    have hv := hv s9 es9
    exact g_vret hx hb hr hlk hz G hv dX6_refresh_26
