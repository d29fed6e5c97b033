abbrev rm_X7_define : Room := ({ frames := 2, cells := 0, slots := 0, locals := 42 } : Room)
theorem hd_X7_define : yX7_define.cls = RX7 ∧ yX7_define.cls ≠ "java/lang/invoke/MethodHandle" ∧ yX7_define.cls ≠ "java/lang/invoke/VarHandle" ∧ (parseMethodDescriptor yX7_define.desc).map (fun d => d.parameters.length) = some 1 := ⟨rfl, by decide +kernel, by decide +kernel, by decide +kernel⟩
set_option maxHeartbeats 4000000 in
set_option maxRecDepth 100000 in
theorem lw_X7_define_57 {p : Program} {l : Launch} {e : Env} {s : State} {m : MethodId} {args : Array Value} {below : List Frame} {meth : Method} {c : Code} {w : GW} {sz : Nat} (hz : s.heap.size = sz) (C0 : gC p s m args meth c cX7_define (some .int) 3 yX7_define.cls (gA w gSL.length sz)) (Q : Int → St → Prop) (y1 : Int) : ∀ (n : Nat) (y2 : Int) (σ : St) (H : Heap) (locs : List Loc) (ls : Array Slot), L_X7_define_57 Q y1 n y2 σ → gS w gSL σ (gA w gSL.length sz) s s.heap H locs → lv_has ls 3 [(0, .ref (gad w 80)), (1, .int (iz y1)), (2, .int (iz y2))] → W p l e rm_X7_define s m args below meth c H locs 0 0 (MQ below (gQi w gSL sz Q) args s 0 0 (gA w gSL.length sz)) (F0 m 57 ls []) := by
  obtain ⟨hx, hb, hr, hml, hown, hts, hlk, hNw, hA⟩ := id C0
  have hown : s.vm.findClass RX7 = some m.cls := hown
  intro n
  induction n with
  | zero => intro y2 σ H locs ls hv; exact hv.elim
  | succ n ih =>
    intro y2 σ H locs ls hv G hl
    refine lv_iload_n hx hb dX7_define_57 rfl (lv_at hl 2 rfl) ?_
    refine lv_aload_n hx hb dX7_define_58 rfl (lv_at hl 0 rfl) ?_
    refine g_getI hx hb hts hown 4 inlX7 G sh_80 rfl (by decide) rfl wm_251 dX7_define_59 ?_
    obtain ⟨i28, hv⟩ := hv
    obtain ⟨i29, hv⟩ := hv
    refine g_icmp_ge (tgt := 91) hx hb i28 i29 dX7_define_62 (by decide) (fun c30 => ?_) (fun c30 => ?_)
    · have hv := hv.1 c30
      refine lv_aload_n hx hb dX7_define_91 rfl (lv_at hl 0 rfl) ?_
      refine g_getR hx hb hts hown 0 81 inlX7 G sh_80 rfl (by decide) rfl wm_108 dX7_define_92 ?_
      refine lv_bipush (v := iz 101) hx hb dX7_define_95 (by decide +kernel) ?_
      refine lv_iload_n hx hb dX7_define_97 rfl (lv_at hl 1 rfl) ?_
      refine g_iadd hx hb dX7_define_98 ?_
      refine lv_aload_n hx hb dX7_define_99 rfl (lv_at hl 0 rfl) ?_
      refine g_getI hx hb hts hown 4 inlX7 G sh_80 rfl (by decide) rfl wm_251 dX7_define_100 ?_
      obtain ⟨o31, hv⟩ := hv
      refine g_ast hx hb G sh_81 o31.1 o31.2 (by decide) dX7_define_103 (fun s32 es32 H locs G => ?_)
      have hv := hv s32 es32
      refine lv_aload_n hx hb dX7_define_104 rfl (lv_at hl 0 rfl) ?_
      refine g_getI hx hb hts hown 4 inlX7 G sh_80 rfl (by decide) rfl wm_251 dX7_define_105 ?_
      exact g_iret hx hb hr hlk hz G hv dX7_define_108
    · have hv := hv.2 c30
      refine lv_aload_n hx hb dX7_define_65 rfl (lv_at hl 0 rfl) ?_
      refine g_getR hx hb hts hown 0 81 inlX7 G sh_80 rfl (by decide) rfl wm_108 dX7_define_66 ?_
      refine lv_bipush (v := iz 107) hx hb dX7_define_69 (by decide +kernel) ?_
      refine lv_bipush (v := iz 8) hx hb dX7_define_71 (by decide +kernel) ?_
      refine lv_iload_n hx hb dX7_define_73 rfl (lv_at hl 1 rfl) ?_
      refine g_imul hx hb dX7_define_74 ?_
      refine g_iadd hx hb dX7_define_75 ?_
      refine lv_iload_n hx hb dX7_define_76 rfl (lv_at hl 2 rfl) ?_
      refine g_iadd hx hb dX7_define_77 ?_
      refine lv_aload_n hx hb dX7_define_78 rfl (lv_at hl 0 rfl) ?_
      refine g_getR hx hb hts hown 3 83 inlX7 G sh_80 rfl (by decide) rfl wm_110 dX7_define_79 ?_
      refine lv_iload_n hx hb dX7_define_82 rfl (lv_at hl 2 rfl) ?_
      obtain ⟨o33, hv⟩ := hv
      refine g_ald hx hb G sh_83 o33.1 o33.2 (by decide) dX7_define_83 ?_
      obtain ⟨o34, hv⟩ := hv
      refine g_ast hx hb G sh_81 o34.1 o34.2 (by decide) dX7_define_84 (fun s35 es35 H locs G => ?_)
      have hv := hv s35 es35
      refine g_iinc (k := 2) (x := y2) (n := 1) (lv' := [(2, .int (iz (y2 + 1))), (0, .ref (gad w 80)), (1, .int (iz y1))]) hx hb dX7_define_85 hl rfl (by decide) rfl (fun ls hl => ?_)
      refine lv_goto (tgt := 57) hx hb dX7_define_88 (by decide) ?_
      exact ih _ _ _ _ _ hv G (lv_sub hl [1, 2, 0] rfl)
set_option maxHeartbeats 4000000 in
set_option maxRecDepth 100000 in
theorem c_X7_define (l : Launch) (w : GW) (σ : St) (sz : Nat) (x1 : Int) (hp : pre_X7_define x1 σ) : Met l yX7_define (Cond.code yX7_define cX7_define 3 (some .int) :: wsL_law) rm_X7_define (gPc w gSL σ sz [.ref (gad w 80), .int (iz x1)]) (gQi w gSL sz (post_X7_define x1 σ)) 0 0 (gA w gSL.length sz) := by
  have hv : V_X7_define x1 σ (post_X7_define x1 σ) := v_X7_define x1 σ hp
  refine g_met (by decide) [.ref (gad w 80), .int (iz x1)] (Nat.le_of_ble_eq_true rfl) ?_
  intro p e s m below meth c ls hz C0 hl G
  obtain ⟨hx, hb, hr, hml, hown, hts, hlk, hNw, hA⟩ := id C0
  have hown : s.vm.findClass RX7 = some m.cls := hown
  have hl : lv_has ls 3 [(0, .ref (gad w 80)), (1, .int (iz x1))] := hl
  refine lv_iload_n hx hb dX7_define_0 rfl (lv_at hl 1 rfl) ?_
  obtain ⟨p1, hv⟩ := hv
  refine g_callSi (rest := []) hx hb hml hts hown hNw hA G [.int (iz x1)] (c_X7_isRule l w σ _ x1 p1) wm_281 wm_282 wm_5 wm_283 hd_X7_isRule ⟨rfl, rfl, Nat.le_of_ble_eq_true rfl, Nat.le_of_ble_eq_true rfl⟩ rfl hl.1 (Nat.le_of_ble_eq_true rfl) rfl dX7_define_1 ⟨Nat.zero_le _, Nat.zero_le _⟩ (fun r4 s2 H locs h3 G => ?_)
  obtain ⟨er4, es2⟩ := h3
  rw [es2] at G
  have hv := hv r4 er4
  obtain ⟨i5, hv⟩ := hv
  refine g_if_ne (tgt := 14) hx hb i5 dX7_define_4 (by decide) (fun c6 => ?_) (fun c6 => ?_)
  · have hv := hv.1 c6
    refine lv_aload_n hx hb dX7_define_14 rfl (lv_at hl 0 rfl) ?_
    refine g_getI hx hb hts hown 4 inlX7 G sh_80 rfl (by decide) rfl wm_251 dX7_define_15 ?_
    obtain ⟨i7, hv⟩ := hv
    refine g_if_eq (tgt := 44) hx hb i7 dX7_define_18 (by decide) (fun c8 => ?_) (fun c8 => ?_)
    · have hv := hv.1 c8
      refine lv_aload_n hx hb dX7_define_44 rfl (lv_at hl 0 rfl) ?_
      refine lv_bipush (v := iz (-3)) hx hb dX7_define_45 (by decide +kernel) ?_
      obtain ⟨p9, hv⟩ := hv
      refine g_callVi (rest := []) hx hb hml hts hown hNw hA G [.int (iz (-3))] (c_X7_fail l w σ _ (-3) p9) sh_80 rfl wm_182 wm_183 wm_184 wm_5 wm_185 hd_X7_fail ⟨rfl, rfl, Nat.le_of_ble_eq_true rfl, Nat.le_of_ble_eq_true rfl⟩ rfl hl.1 (Nat.le_of_ble_eq_true rfl) rfl dX7_define_47 ⟨Nat.zero_le _, Nat.zero_le _⟩ (fun r12 s10 H locs h11 G => ?_)
      have hv := hv r12 h11.1 s10 h11.2
      exact g_iret hx hb hr hlk hz G hv dX7_define_50
    · have hv := hv.2 c8
      refine lv_aload_n hx hb dX7_define_21 rfl (lv_at hl 0 rfl) ?_
      refine g_getR hx hb hts hown 3 83 inlX7 G sh_80 rfl (by decide) rfl wm_110 dX7_define_22 ?_
      refine lv_iconst (v := iz 0) hx hb dX7_define_25 rfl ?_
      refine g_ald hx hb G sh_83 (by decide) (by decide) (by decide) dX7_define_26 ?_
      refine lv_bipush (v := iz 126) hx hb dX7_define_27 (by decide +kernel) ?_
      obtain ⟨i13, hv⟩ := hv
      refine g_icmp_eq (tgt := 44) hx hb i13 ⟨by decide, by decide⟩ dX7_define_29 (by decide) (fun c14 => ?_) (fun c14 => ?_)
      · have hv := hv.1 c14
        refine lv_aload_n hx hb dX7_define_44 rfl (lv_at hl 0 rfl) ?_
        refine lv_bipush (v := iz (-3)) hx hb dX7_define_45 (by decide +kernel) ?_
        obtain ⟨p15, hv⟩ := hv
        refine g_callVi (rest := []) hx hb hml hts hown hNw hA G [.int (iz (-3))] (c_X7_fail l w σ _ (-3) p15) sh_80 rfl wm_182 wm_183 wm_184 wm_5 wm_185 hd_X7_fail ⟨rfl, rfl, Nat.le_of_ble_eq_true rfl, Nat.le_of_ble_eq_true rfl⟩ rfl hl.1 (Nat.le_of_ble_eq_true rfl) rfl dX7_define_47 ⟨Nat.zero_le _, Nat.zero_le _⟩ (fun r18 s16 H locs h17 G => ?_)
        have hv := hv r18 h17.1 s16 h17.2
        exact g_iret hx hb hr hlk hz G hv dX7_define_50
      · have hv := hv.2 c14
        refine lv_aload_n hx hb dX7_define_32 rfl (lv_at hl 0 rfl) ?_
        refine g_getR hx hb hts hown 3 83 inlX7 G sh_80 rfl (by decide) rfl wm_110 dX7_define_33 ?_
        refine lv_iconst (v := iz 0) hx hb dX7_define_36 rfl ?_
        refine g_ald hx hb G sh_83 (by decide) (by decide) (by decide) dX7_define_37 ?_
        obtain ⟨p19, hv⟩ := hv
        refine g_callSi (rest := []) hx hb hml hts hown hNw hA G [.int (iz (σ 83 0))] (c_X7_isReference l w σ _ (σ 83 0) p19) wm_284 wm_285 wm_5 wm_286 hd_X7_isReference ⟨rfl, rfl, Nat.le_of_ble_eq_true rfl, Nat.le_of_ble_eq_true rfl⟩ rfl hl.1 (Nat.le_of_ble_eq_true rfl) rfl dX7_define_38 ⟨Nat.zero_le _, Nat.zero_le _⟩ (fun r22 s20 H locs h21 G => ?_)
        obtain ⟨er22, es20⟩ := h21
        rw [es20] at G
        have hv := hv r22 er22
        obtain ⟨i23, hv⟩ := hv
        refine g_if_eq (tgt := 51) hx hb i23 dX7_define_41 (by decide) (fun c24 => ?_) (fun c24 => ?_)
        · have hv := hv.1 c24
          refine lv_aload_n hx hb dX7_define_51 rfl (lv_at hl 0 rfl) ?_
          obtain ⟨p25, hv⟩ := hv
          refine g_callVv (rest := []) hx hb hml hts hown hNw hA G [] (c_X7_save l w σ _ p25) sh_80 rfl wm_186 wm_187 wm_188 wm_5 wm_189 hd_X7_save ⟨rfl, rfl, Nat.le_of_ble_eq_true rfl, Nat.le_of_ble_eq_true rfl⟩ rfl hl.1 (Nat.le_of_ble_eq_true rfl) rfl dX7_define_52 ⟨Nat.zero_le _, Nat.zero_le _⟩ (fun s26 H locs h27 G => ?_)
          have hv := hv s26 h27
          refine lv_iconst (v := iz 0) hx hb dX7_define_55 rfl ?_
          refine lv_istore_n (lv' := [(2, .int (iz 0)), (0, .ref (gad w 80)), (1, .int (iz x1))]) hx hb dX7_define_56 rfl hl (by decide) rfl (fun ls hl => ?_)
          obtain ⟨n_, hv⟩ := hv
          exact lw_X7_define_57 (l := l) (p := p) (e := e) hz C0 _ x1 n_ _ _ _ _ _ hv G (lv_sub hl [1, 2, 0] rfl)
        · have hv := hv.2 c24
          refine lv_aload_n hx hb dX7_define_44 rfl (lv_at hl 0 rfl) ?_
          refine lv_bipush (v := iz (-3)) hx hb dX7_define_45 (by decide +kernel) ?_
          obtain ⟨p36, hv⟩ := hv
          refine g_callVi (rest := []) hx hb hml hts hown hNw hA G [.int (iz (-3))] (c_X7_fail l w σ _ (-3) p36) sh_80 rfl wm_182 wm_183 wm_184 wm_5 wm_185 hd_X7_fail ⟨rfl, rfl, Nat.le_of_ble_eq_true rfl, Nat.le_of_ble_eq_true rfl⟩ rfl hl.1 (Nat.le_of_ble_eq_true rfl) rfl dX7_define_47 ⟨Nat.zero_le _, Nat.zero_le _⟩ (fun r39 s37 H locs h38 G => ?_)
          have hv := hv r39 h38.1 s37 h38.2
          exact g_iret hx hb hr hlk hz G hv dX7_define_50
  · have hv := hv.2 c6
    refine lv_aload_n hx hb dX7_define_7 rfl (lv_at hl 0 rfl) ?_
    refine lv_bipush (v := iz (-2)) hx hb dX7_define_8 (by decide +kernel) ?_
    obtain ⟨p40, hv⟩ := hv
    refine g_callVi (rest := []) hx hb hml hts hown hNw hA G [.int (iz (-2))] (c_X7_fail l w σ _ (-2) p40) sh_80 rfl wm_182 wm_183 wm_184 wm_5 wm_185 hd_X7_fail ⟨rfl, rfl, Nat.le_of_ble_eq_true rfl, Nat.le_of_ble_eq_true rfl⟩ rfl hl.1 (Nat.le_of_ble_eq_true rfl) rfl dX7_define_10 ⟨Nat.zero_le _, Nat.zero_le _⟩ (fun r43 s41 H locs h42 G => ?_)
    have hv := hv r43 h42.1 s41 h42.2
    exact g_iret hx hb hr hlk hz G hv dX7_define_13
abbrev rm_X7_undefine : Room := ({ frames := 2, cells := 0, slots := 0, locals := 42 } : Room)
theorem hd_X7_undefine : yX7_undefine.cls = RX7 ∧ yX7_undefine.cls ≠ "java/lang/invoke/MethodHandle" ∧ yX7_undefine.cls ≠ "java/lang/invoke/VarHandle" ∧ (parseMethodDescriptor yX7_undefine.desc).map (fun d => d.parameters.length) = some 1 := ⟨rfl, by decide +kernel, by decide +kernel, by decide +kernel⟩
set_option maxHeartbeats 4000000 in
set_option maxRecDepth 100000 in
theorem c_X7_undefine (l : Launch) (w : GW) (σ : St) (sz : Nat) (x1 : Int) (hp : pre_X7_undefine x1 σ) : Met l yX7_undefine (Cond.code yX7_undefine cX7_undefine 3 (some .int) :: wsL_law) rm_X7_undefine (gPc w gSL σ sz [.ref (gad w 80), .int (iz x1)]) (gQi w gSL sz (post_X7_undefine x1 σ)) 0 0 (gA w gSL.length sz) := by
  have hv : V_X7_undefine x1 σ (post_X7_undefine x1 σ) := v_X7_undefine x1 σ hp
  refine g_met (by decide) [.ref (gad w 80), .int (iz x1)] (Nat.le_of_ble_eq_true rfl) ?_
  intro p e s m below meth c ls hz C0 hl G
  obtain ⟨hx, hb, hr, hml, hown, hts, hlk, hNw, hA⟩ := id C0
  have hown : s.vm.findClass RX7 = some m.cls := hown
  have hl : lv_has ls 3 [(0, .ref (gad w 80)), (1, .int (iz x1))] := hl
  refine lv_iload_n hx hb dX7_undefine_0 rfl (lv_at hl 1 rfl) ?_
  obtain ⟨p1, hv⟩ := hv
  refine g_callSi (rest := []) hx hb hml hts hown hNw hA G [.int (iz x1)] (c_X7_isRule l w σ _ x1 p1) wm_281 wm_282 wm_5 wm_283 hd_X7_isRule ⟨rfl, rfl, Nat.le_of_ble_eq_true rfl, Nat.le_of_ble_eq_true rfl⟩ rfl hl.1 (Nat.le_of_ble_eq_true rfl) rfl dX7_undefine_1 ⟨Nat.zero_le _, Nat.zero_le _⟩ (fun r4 s2 H locs h3 G => ?_)
  obtain ⟨er4, es2⟩ := h3
  rw [es2] at G
  have hv := hv r4 er4
  obtain ⟨i5, hv⟩ := hv
  refine g_if_ne (tgt := 14) hx hb i5 dX7_undefine_4 (by decide) (fun c6 => ?_) (fun c6 => ?_)
  · have hv := hv.1 c6
    refine lv_aload_n hx hb dX7_undefine_14 rfl (lv_at hl 0 rfl) ?_
    obtain ⟨p7, hv⟩ := hv
    refine g_callVv (rest := []) hx hb hml hts hown hNw hA G [] (c_X7_save l w σ _ p7) sh_80 rfl wm_186 wm_187 wm_188 wm_5 wm_189 hd_X7_save ⟨rfl, rfl, Nat.le_of_ble_eq_true rfl, Nat.le_of_ble_eq_true rfl⟩ rfl hl.1 (Nat.le_of_ble_eq_true rfl) rfl dX7_undefine_15 ⟨Nat.zero_le _, Nat.zero_le _⟩ (fun s8 H locs h9 G => ?_)
    have hv := hv s8 h9
    refine lv_aload_n hx hb dX7_undefine_18 rfl (lv_at hl 0 rfl) ?_
    refine g_getR hx hb hts hown 0 81 inlX7 G sh_80 rfl (by decide) rfl wm_108 dX7_undefine_19 ?_
    refine lv_bipush (v := iz 101) hx hb dX7_undefine_22 (by decide +kernel) ?_
    refine lv_iload_n hx hb dX7_undefine_24 rfl (lv_at hl 1 rfl) ?_
    refine g_iadd hx hb dX7_undefine_25 ?_
    obtain ⟨o10, hv⟩ := hv
    refine g_ald hx hb G sh_81 o10.1 o10.2 (by decide) dX7_undefine_26 ?_
    refine lv_istore_n (lv' := [(2, .int (iz (s8 81 (101 + x1)))), (0, .ref (gad w 80)), (1, .int (iz x1))]) hx hb dX7_undefine_27 rfl hl (by decide) rfl (fun ls hl => ?_)
    refine lv_aload_n hx hb dX7_undefine_28 rfl (lv_at hl 1 rfl) ?_
    refine g_getR hx hb hts hown 0 81 inlX7 G sh_80 rfl (by decide) rfl wm_108 dX7_undefine_29 ?_
    refine lv_bipush (v := iz 101) hx hb dX7_undefine_32 (by decide +kernel) ?_
    refine lv_iload_n hx hb dX7_undefine_34 rfl (lv_at hl 2 rfl) ?_
    refine g_iadd hx hb dX7_undefine_35 ?_
    refine lv_iconst (v := iz 0) hx hb dX7_undefine_36 rfl ?_
    obtain ⟨o11, hv⟩ := hv
    refine g_ast hx hb G sh_81 o11.1 o11.2 (by decide) dX7_undefine_37 (fun s12 es12 H locs G => ?_)
    have hv := hv s12 es12
    refine lv_iload_n hx hb dX7_undefine_38 rfl (lv_at hl 0 rfl) ?_
    exact g_iret hx hb hr hlk hz G hv dX7_undefine_39
  · have hv := hv.2 c6
    refine lv_aload_n hx hb dX7_undefine_7 rfl (lv_at hl 0 rfl) ?_
    refine lv_bipush (v := iz (-2)) hx hb dX7_undefine_8 (by decide +kernel) ?_
    obtain ⟨p13, hv⟩ := hv
    refine g_callVi (rest := []) hx hb hml hts hown hNw hA G [.int (iz (-2))] (c_X7_fail l w σ _ (-2) p13) sh_80 rfl wm_182 wm_183 wm_184 wm_5 wm_185 hd_X7_fail ⟨rfl, rfl, Nat.le_of_ble_eq_true rfl, Nat.le_of_ble_eq_true rfl⟩ rfl hl.1 (Nat.le_of_ble_eq_true rfl) rfl dX7_undefine_10 ⟨Nat.zero_le _, Nat.zero_le _⟩ (fun r16 s14 H locs h15 G => ?_)
    have hv := hv r16 h15.1 s14 h15.2
    exact g_iret hx hb hr hlk hz G hv dX7_undefine_13
abbrev rm_X7_setStop : Room := ({ frames := 2, cells := 0, slots := 0, locals := 42 } : Room)
theorem hd_X7_setStop : yX7_setStop.cls = RX7 ∧ yX7_setStop.cls ≠ "java/lang/invoke/MethodHandle" ∧ yX7_setStop.cls ≠ "java/lang/invoke/VarHandle" ∧ (parseMethodDescriptor yX7_setStop.desc).map (fun d => d.parameters.length) = some 2 := ⟨rfl, by decide +kernel, by decide +kernel, by decide +kernel⟩
set_option maxHeartbeats 4000000 in
set_option maxRecDepth 100000 in
theorem c_X7_setStop (l : Launch) (w : GW) (σ : St) (sz : Nat) (x1 x2 : Int) (hp : pre_X7_setStop x1 x2 σ) : Met l yX7_setStop (Cond.code yX7_setStop cX7_setStop 4 (some .int) :: wsL_law) rm_X7_setStop (gPc w gSL σ sz [.ref (gad w 80), .int (iz x1), .int (iz x2)]) (gQi w gSL sz (post_X7_setStop x1 x2 σ)) 0 0 (gA w gSL.length sz) := by
  have hv : V_X7_setStop x1 x2 σ (post_X7_setStop x1 x2 σ) := v_X7_setStop x1 x2 σ hp
  refine g_met (by decide) [.ref (gad w 80), .int (iz x1), .int (iz x2)] (Nat.le_of_ble_eq_true rfl) ?_
  intro p e s m below meth c ls hz C0 hl G
  obtain ⟨hx, hb, hr, hml, hown, hts, hlk, hNw, hA⟩ := id C0
  have hown : s.vm.findClass RX7 = some m.cls := hown
  have hl : lv_has ls 4 [(0, .ref (gad w 80)), (1, .int (iz x1)), (2, .int (iz x2))] := hl
  refine lv_iload_n hx hb dX7_setStop_0 rfl (lv_at hl 1 rfl) ?_
  obtain ⟨p1, hv⟩ := hv
  refine g_callSi (rest := []) hx hb hml hts hown hNw hA G [.int (iz x1)] (c_X7_isRule l w σ _ x1 p1) wm_281 wm_282 wm_5 wm_283 hd_X7_isRule ⟨rfl, rfl, Nat.le_of_ble_eq_true rfl, Nat.le_of_ble_eq_true rfl⟩ rfl hl.1 (Nat.le_of_ble_eq_true rfl) rfl dX7_setStop_1 ⟨Nat.zero_le _, Nat.zero_le _⟩ (fun r4 s2 H locs h3 G => ?_)
  obtain ⟨er4, es2⟩ := h3
  rw [es2] at G
  have hv := hv r4 er4
  obtain ⟨i5, hv⟩ := hv
  refine g_if_eq (tgt := 19) hx hb i5 dX7_setStop_4 (by decide) (fun c6 => ?_) (fun c6 => ?_)
  · have hv := hv.1 c6
    refine lv_aload_n hx hb dX7_setStop_19 rfl (lv_at hl 0 rfl) ?_
    refine lv_bipush (v := iz (-2)) hx hb dX7_setStop_20 (by decide +kernel) ?_
    obtain ⟨p7, hv⟩ := hv
    refine g_callVi (rest := []) hx hb hml hts hown hNw hA G [.int (iz (-2))] (c_X7_fail l w σ _ (-2) p7) sh_80 rfl wm_182 wm_183 wm_184 wm_5 wm_185 hd_X7_fail ⟨rfl, rfl, Nat.le_of_ble_eq_true rfl, Nat.le_of_ble_eq_true rfl⟩ rfl hl.1 (Nat.le_of_ble_eq_true rfl) rfl dX7_setStop_22 ⟨Nat.zero_le _, Nat.zero_le _⟩ (fun r10 s8 H locs h9 G => ?_)
    have hv := hv r10 h9.1 s8 h9.2
    exact g_iret hx hb hr hlk hz G hv dX7_setStop_25
  · have hv := hv.2 c6
    refine lv_iload_n hx hb dX7_setStop_7 rfl (lv_at hl 2 rfl) ?_
    refine lv_iconst (v := iz (-1)) hx hb dX7_setStop_8 rfl ?_
    obtain ⟨i11, hv⟩ := hv
    refine g_icmp_eq (tgt := 26) hx hb i11 ⟨by decide, by decide⟩ dX7_setStop_9 (by decide) (fun c12 => ?_) (fun c12 => ?_)
    · have hv := hv.1 c12
      refine lv_aload_n hx hb dX7_setStop_26 rfl (lv_at hl 0 rfl) ?_
      obtain ⟨p13, hv⟩ := hv
      refine g_callVv (rest := []) hx hb hml hts hown hNw hA G [] (c_X7_save l w σ _ p13) sh_80 rfl wm_186 wm_187 wm_188 wm_5 wm_189 hd_X7_save ⟨rfl, rfl, Nat.le_of_ble_eq_true rfl, Nat.le_of_ble_eq_true rfl⟩ rfl hl.1 (Nat.le_of_ble_eq_true rfl) rfl dX7_setStop_27 ⟨Nat.zero_le _, Nat.zero_le _⟩ (fun s14 H locs h15 G => ?_)
      have hv := hv s14 h15
      refine lv_aload_n hx hb dX7_setStop_30 rfl (lv_at hl 0 rfl) ?_
      refine g_getR hx hb hts hown 0 81 inlX7 G sh_80 rfl (by decide) rfl wm_108 dX7_setStop_31 ?_
      refine lv_sipush (v := iz 155) hx hb dX7_setStop_34 (by decide +kernel) ?_
      refine lv_iload_n hx hb dX7_setStop_37 rfl (lv_at hl 1 rfl) ?_
      refine g_iadd hx hb dX7_setStop_38 ?_
      obtain ⟨o16, hv⟩ := hv
      refine g_ald hx hb G sh_81 o16.1 o16.2 (by decide) dX7_setStop_39 ?_
      refine lv_istore_n (lv' := [(3, .int (iz (s14 81 (155 + x1)))), (0, .ref (gad w 80)), (1, .int (iz x1)), (2, .int (iz x2))]) hx hb dX7_setStop_40 rfl hl (by decide) rfl (fun ls hl => ?_)
      refine lv_aload_n hx hb dX7_setStop_41 rfl (lv_at hl 1 rfl) ?_
      refine g_getR hx hb hts hown 0 81 inlX7 G sh_80 rfl (by decide) rfl wm_108 dX7_setStop_42 ?_
      refine lv_sipush (v := iz 155) hx hb dX7_setStop_45 (by decide +kernel) ?_
      refine lv_iload_n hx hb dX7_setStop_48 rfl (lv_at hl 2 rfl) ?_
      refine g_iadd hx hb dX7_setStop_49 ?_
      refine lv_iload_n hx hb dX7_setStop_50 rfl (lv_at hl 3 rfl) ?_
      obtain ⟨o17, hv⟩ := hv
      refine g_ast hx hb G sh_81 o17.1 o17.2 (by decide) dX7_setStop_51 (fun s18 es18 H locs G => ?_)
      have hv := hv s18 es18
      refine lv_iload_n hx hb dX7_setStop_52 rfl (lv_at hl 0 rfl) ?_
      exact g_iret hx hb hr hlk hz G hv dX7_setStop_53
    · have hv := hv.2 c12
      refine lv_iload_n hx hb dX7_setStop_12 rfl (lv_at hl 2 rfl) ?_
      obtain ⟨p19, hv⟩ := hv
      refine g_callSi (rest := []) hx hb hml hts hown hNw hA G [.int (iz x2)] (c_X7_isByte l w σ _ x2 p19) wm_179 wm_180 wm_5 wm_181 hd_X7_isByte ⟨rfl, rfl, Nat.le_of_ble_eq_true rfl, Nat.le_of_ble_eq_true rfl⟩ rfl hl.1 (Nat.le_of_ble_eq_true rfl) rfl dX7_setStop_13 ⟨Nat.zero_le _, Nat.zero_le _⟩ (fun r22 s20 H locs h21 G => ?_)
      obtain ⟨er22, es20⟩ := h21
      rw [es20] at G
      have hv := hv r22 er22
      obtain ⟨i23, hv⟩ := hv
      refine g_if_ne (tgt := 26) hx hb i23 dX7_setStop_16 (by decide) (fun c24 => ?_) (fun c24 => ?_)
      · have hv := hv.1 c24
        refine lv_aload_n hx hb dX7_setStop_26 rfl (lv_at hl 0 rfl) ?_
        obtain ⟨p25, hv⟩ := hv
        refine g_callVv (rest := []) hx hb hml hts hown hNw hA G [] (c_X7_save l w σ _ p25) sh_80 rfl wm_186 wm_187 wm_188 wm_5 wm_189 hd_X7_save ⟨rfl, rfl, Nat.le_of_ble_eq_true rfl, Nat.le_of_ble_eq_true rfl⟩ rfl hl.1 (Nat.le_of_ble_eq_true rfl) rfl dX7_setStop_27 ⟨Nat.zero_le _, Nat.zero_le _⟩ (fun s26 H locs h27 G => ?_)
        have hv := hv s26 h27
        refine lv_aload_n hx hb dX7_setStop_30 rfl (lv_at hl 0 rfl) ?_
        refine g_getR hx hb hts hown 0 81 inlX7 G sh_80 rfl (by decide) rfl wm_108 dX7_setStop_31 ?_
        refine lv_sipush (v := iz 155) hx hb dX7_setStop_34 (by decide +kernel) ?_
        refine lv_iload_n hx hb dX7_setStop_37 rfl (lv_at hl 1 rfl) ?_
        refine g_iadd hx hb dX7_setStop_38 ?_
        obtain ⟨o28, hv⟩ := hv
        refine g_ald hx hb G sh_81 o28.1 o28.2 (by decide) dX7_setStop_39 ?_
        refine lv_istore_n (lv' := [(3, .int (iz (s26 81 (155 + x1)))), (0, .ref (gad w 80)), (1, .int (iz x1)), (2, .int (iz x2))]) hx hb dX7_setStop_40 rfl hl (by decide) rfl (fun ls hl => ?_)
        refine lv_aload_n hx hb dX7_setStop_41 rfl (lv_at hl 1 rfl) ?_
        refine g_getR hx hb hts hown 0 81 inlX7 G sh_80 rfl (by decide) rfl wm_108 dX7_setStop_42 ?_
        refine lv_sipush (v := iz 155) hx hb dX7_setStop_45 (by decide +kernel) ?_
        refine lv_iload_n hx hb dX7_setStop_48 rfl (lv_at hl 2 rfl) ?_
        refine g_iadd hx hb dX7_setStop_49 ?_
        refine lv_iload_n hx hb dX7_setStop_50 rfl (lv_at hl 3 rfl) ?_
        obtain ⟨o29, hv⟩ := hv
        refine g_ast hx hb G sh_81 o29.1 o29.2 (by decide) dX7_setStop_51 (fun s30 es30 H locs G => ?_)
        have hv := hv s30 es30
        refine lv_iload_n hx hb dX7_setStop_52 rfl (lv_at hl 0 rfl) ?_
        exact g_iret hx hb hr hlk hz G hv dX7_setStop_53
      · have hv := hv.2 c24
        refine lv_aload_n hx hb dX7_setStop_19 rfl (lv_at hl 0 rfl) ?_
        refine lv_bipush (v := iz (-2)) hx hb dX7_setStop_20 (by decide +kernel) ?_
        obtain ⟨p31, hv⟩ := hv
        refine g_callVi (rest := []) hx hb hml hts hown hNw hA G [.int (iz (-2))] (c_X7_fail l w σ _ (-2) p31) sh_80 rfl wm_182 wm_183 wm_184 wm_5 wm_185 hd_X7_fail ⟨rfl, rfl, Nat.le_of_ble_eq_true rfl, Nat.le_of_ble_eq_true rfl⟩ rfl hl.1 (Nat.le_of_ble_eq_true rfl) rfl dX7_setStop_22 ⟨Nat.zero_le _, Nat.zero_le _⟩ (fun r34 s32 H locs h33 G => ?_)
        have hv := hv r34 h33.1 s32 h33.2
        exact g_iret hx hb hr hlk hz G hv dX7_setStop_25
abbrev rm_X7_elementOf : Room := ({ frames := 0, cells := 0, slots := 0, locals := 0 } : Room)
theorem hd_X7_elementOf : yX7_elementOf.cls = RX7 ∧ yX7_elementOf.cls ≠ "java/lang/invoke/MethodHandle" ∧ yX7_elementOf.cls ≠ "java/lang/invoke/VarHandle" ∧ (parseMethodDescriptor yX7_elementOf.desc).map (fun d => d.parameters.length) = some 2 := ⟨rfl, by decide +kernel, by decide +kernel, by decide +kernel⟩
set_option maxHeartbeats 4000000 in
set_option maxRecDepth 100000 in
theorem c_X7_elementOf (l : Launch) (w : GW) (σ : St) (sz : Nat) (x1 x2 : Int) (hp : pre_X7_elementOf x1 x2 σ) : Met l yX7_elementOf (Cond.code yX7_elementOf cX7_elementOf 3 (some .int) :: wsL_law) rm_X7_elementOf (gPc w gSL σ sz [.ref (gad w 80), .int (iz x1), .int (iz x2)]) (gQi w gSL sz (post_X7_elementOf x1 x2 σ)) 0 0 (gA w gSL.length sz) := by
  have hv : V_X7_elementOf x1 x2 σ (post_X7_elementOf x1 x2 σ) := v_X7_elementOf x1 x2 σ hp
  refine g_met (by decide) [.ref (gad w 80), .int (iz x1), .int (iz x2)] (Nat.le_of_ble_eq_true rfl) ?_
  intro p e s m below meth c ls hz C0 hl G
  obtain ⟨hx, hb, hr, hml, hown, hts, hlk, hNw, hA⟩ := id C0
  have hown : s.vm.findClass RX7 = some m.cls := hown
  have hl : lv_has ls 3 [(0, .ref (gad w 80)), (1, .int (iz x1)), (2, .int (iz x2))] := hl
  refine lv_aload_n hx hb dX7_elementOf_0 rfl (lv_at hl 0 rfl) ?_
  refine g_getR hx hb hts hown 0 81 inlX7 G sh_80 rfl (by decide) rfl wm_108 dX7_elementOf_1 ?_
  refine lv_bipush (v := iz 107) hx hb dX7_elementOf_4 (by decide +kernel) ?_
  refine lv_bipush (v := iz 8) hx hb dX7_elementOf_6 (by decide +kernel) ?_
  refine lv_iload_n hx hb dX7_elementOf_8 rfl (lv_at hl 1 rfl) ?_
  refine g_imul hx hb dX7_elementOf_9 ?_
  refine g_iadd hx hb dX7_elementOf_10 ?_
  refine lv_iload_n hx hb dX7_elementOf_11 rfl (lv_at hl 2 rfl) ?_
  refine g_iadd hx hb dX7_elementOf_12 ?_
  obtain ⟨o1, hv⟩ := hv
  refine g_ald hx hb G sh_81 o1.1 o1.2 (by decide) dX7_elementOf_13 ?_
  exact g_iret hx hb hr hlk hz G hv dX7_elementOf_14
abbrev rm_X7_element : Room := ({ frames := 2, cells := 0, slots := 0, locals := 42 } : Room)
theorem hd_X7_element : yX7_element.cls = RX7 ∧ yX7_element.cls ≠ "java/lang/invoke/MethodHandle" ∧ yX7_element.cls ≠ "java/lang/invoke/VarHandle" ∧ (parseMethodDescriptor yX7_element.desc).map (fun d => d.parameters.length) = some 2 := ⟨rfl, by decide +kernel, by decide +kernel, by decide +kernel⟩
set_option maxHeartbeats 4000000 in
set_option maxRecDepth 100000 in
theorem c_X7_element (l : Launch) (w : GW) (σ : St) (sz : Nat) (x1 x2 : Int) (hp : pre_X7_element x1 x2 σ) : Met l yX7_element (Cond.code yX7_element cX7_element 3 (some .int) :: wsL_law) rm_X7_element (gPc w gSL σ sz [.ref (gad w 80), .int (iz x1), .int (iz x2)]) (gQi w gSL sz (post_X7_element x1 x2 σ)) 0 0 (gA w gSL.length sz) := by
  have hv : V_X7_element x1 x2 σ (post_X7_element x1 x2 σ) := v_X7_element x1 x2 σ hp
  refine g_met (by decide) [.ref (gad w 80), .int (iz x1), .int (iz x2)] (Nat.le_of_ble_eq_true rfl) ?_
  intro p e s m below meth c ls hz C0 hl G
  obtain ⟨hx, hb, hr, hml, hown, hts, hlk, hNw, hA⟩ := id C0
  have hown : s.vm.findClass RX7 = some m.cls := hown
  have hl : lv_has ls 3 [(0, .ref (gad w 80)), (1, .int (iz x1)), (2, .int (iz x2))] := hl
  refine lv_iload_n hx hb dX7_element_0 rfl (lv_at hl 1 rfl) ?_
  obtain ⟨p1, hv⟩ := hv
  refine g_callSi (rest := []) hx hb hml hts hown hNw hA G [.int (iz x1)] (c_X7_isRule l w σ _ x1 p1) wm_281 wm_282 wm_5 wm_283 hd_X7_isRule ⟨rfl, rfl, Nat.le_of_ble_eq_true rfl, Nat.le_of_ble_eq_true rfl⟩ rfl hl.1 (Nat.le_of_ble_eq_true rfl) rfl dX7_element_1 ⟨Nat.zero_le _, Nat.zero_le _⟩ (fun r4 s2 H locs h3 G => ?_)
  obtain ⟨er4, es2⟩ := h3
  rw [es2] at G
  have hv := hv r4 er4
  obtain ⟨i5, hv⟩ := hv
  refine g_if_eq (tgt := 11) hx hb i5 dX7_element_4 (by decide) (fun c6 => ?_) (fun c6 => ?_)
  · have hv := hv.1 c6
    refine lv_aload_n hx hb dX7_element_11 rfl (lv_at hl 0 rfl) ?_
    refine lv_bipush (v := iz (-2)) hx hb dX7_element_12 (by decide +kernel) ?_
    obtain ⟨p7, hv⟩ := hv
    refine g_callVi (rest := []) hx hb hml hts hown hNw hA G [.int (iz (-2))] (c_X7_fail l w σ _ (-2) p7) sh_80 rfl wm_182 wm_183 wm_184 wm_5 wm_185 hd_X7_fail ⟨rfl, rfl, Nat.le_of_ble_eq_true rfl, Nat.le_of_ble_eq_true rfl⟩ rfl hl.1 (Nat.le_of_ble_eq_true rfl) rfl dX7_element_14 ⟨Nat.zero_le _, Nat.zero_le _⟩ (fun r10 s8 H locs h9 G => ?_)
    have hv := hv r10 h9.1 s8 h9.2
    exact g_iret hx hb hr hlk hz G hv dX7_element_17
  · have hv := hv.2 c6
    refine lv_iload_n hx hb dX7_element_7 rfl (lv_at hl 2 rfl) ?_
    obtain ⟨i11, hv⟩ := hv
    refine g_if_ge (tgt := 18) hx hb i11 dX7_element_8 (by decide) (fun c12 => ?_) (fun c12 => ?_)
    · have hv := hv.1 c12
      refine lv_iload_n hx hb dX7_element_18 rfl (lv_at hl 2 rfl) ?_
      refine lv_aload_n hx hb dX7_element_19 rfl (lv_at hl 0 rfl) ?_
      refine g_getR hx hb hts hown 0 81 inlX7 G sh_80 rfl (by decide) rfl wm_108 dX7_element_20 ?_
      refine lv_bipush (v := iz 101) hx hb dX7_element_23 (by decide +kernel) ?_
      refine lv_iload_n hx hb dX7_element_25 rfl (lv_at hl 1 rfl) ?_
      refine g_iadd hx hb dX7_element_26 ?_
      obtain ⟨o13, hv⟩ := hv
      refine g_ald hx hb G sh_81 o13.1 o13.2 (by decide) dX7_element_27 ?_
      obtain ⟨i14, hv⟩ := hv
      refine g_icmp_ge (tgt := 40) hx hb i11 i14 dX7_element_28 (by decide) (fun c15 => ?_) (fun c15 => ?_)
      · have hv := hv.1 c15
        refine lv_iconst (v := iz (-1)) hx hb dX7_element_40 rfl ?_
        exact g_iret hx hb hr hlk hz G hv dX7_element_41
      · have hv := hv.2 c15
        refine lv_aload_n hx hb dX7_element_31 rfl (lv_at hl 0 rfl) ?_
        refine lv_iload_n hx hb dX7_element_32 rfl (lv_at hl 1 rfl) ?_
        refine lv_iload_n hx hb dX7_element_33 rfl (lv_at hl 2 rfl) ?_
        obtain ⟨p16, hv⟩ := hv
        refine g_callVi (rest := []) hx hb hml hts hown hNw hA G [.int (iz x1), .int (iz x2)] (c_X7_elementOf l w σ _ x1 x2 p16) sh_80 rfl wm_327 wm_328 wm_329 wm_5 wm_330 hd_X7_elementOf ⟨rfl, rfl, Nat.le_of_ble_eq_true rfl, Nat.le_of_ble_eq_true rfl⟩ rfl hl.1 (Nat.le_of_ble_eq_true rfl) rfl dX7_element_34 ⟨Nat.zero_le _, Nat.zero_le _⟩ (fun r19 s17 H locs h18 G => ?_)
        obtain ⟨er19, es17⟩ := h18
        rw [es17] at G
        have hv := hv r19 er19
        refine lv_goto (tgt := 41) hx hb dX7_element_37 (by decide) ?_
        exact g_iret hx hb hr hlk hz G hv dX7_element_41
    · have hv := hv.2 c12
      refine lv_aload_n hx hb dX7_element_11 rfl (lv_at hl 0 rfl) ?_
      refine lv_bipush (v := iz (-2)) hx hb dX7_element_12 (by decide +kernel) ?_
      obtain ⟨p20, hv⟩ := hv
      refine g_callVi (rest := []) hx hb hml hts hown hNw hA G [.int (iz (-2))] (c_X7_fail l w σ _ (-2) p20) sh_80 rfl wm_182 wm_183 wm_184 wm_5 wm_185 hd_X7_fail ⟨rfl, rfl, Nat.le_of_ble_eq_true rfl, Nat.le_of_ble_eq_true rfl⟩ rfl hl.1 (Nat.le_of_ble_eq_true rfl) rfl dX7_element_14 ⟨Nat.zero_le _, Nat.zero_le _⟩ (fun r23 s21 H locs h22 G => ?_)
      have hv := hv r23 h22.1 s21 h22.2
      exact g_iret hx hb hr hlk hz G hv dX7_element_17
abbrev rm_X7_cell : Room := ({ frames := 0, cells := 0, slots := 0, locals := 0 } : Room)
theorem hd_X7_cell : yX7_cell.cls ≠ "java/lang/invoke/MethodHandle" ∧ yX7_cell.cls ≠ "java/lang/invoke/VarHandle" ∧ (parseMethodDescriptor yX7_cell.desc).map (fun d => d.parameters.length) = some 3 := ⟨by decide +kernel, by decide +kernel, by decide +kernel⟩
set_option maxHeartbeats 4000000 in
set_option maxRecDepth 100000 in
theorem c_X7_cell (l : Launch) (w : GW) (σ : St) (sz : Nat) (x0 x1 x2 : Int) (hp : pre_X7_cell x0 x1 x2 σ) : Met l yX7_cell (Cond.code yX7_cell cX7_cell 3 (some .int) :: wsL_law) rm_X7_cell (gPc w gSL σ sz [.int (iz x0), .int (iz x1), .int (iz x2)]) (gQi w gSL sz (post_X7_cell x0 x1 x2 σ)) 0 0 (gA w gSL.length sz) := by
  have hv : V_X7_cell x0 x1 x2 σ (post_X7_cell x0 x1 x2 σ) := v_X7_cell x0 x1 x2 σ hp
  refine g_met (by decide) [.int (iz x0), .int (iz x1), .int (iz x2)] (Nat.le_of_ble_eq_true rfl) ?_
  intro p e s m below meth c ls hz C0 hl G
  obtain ⟨hx, hb, hr, hml, hown, hts, hlk, hNw, hA⟩ := id C0
  have hown : s.vm.findClass RX7 = some m.cls := hown
  have hl : lv_has ls 3 [(0, .int (iz x0)), (1, .int (iz x1)), (2, .int (iz x2))] := hl
  refine lv_bipush (v := iz 101) hx hb dX7_cell_0 (by decide +kernel) ?_
  refine lv_bipush (v := iz 9) hx hb dX7_cell_2 (by decide +kernel) ?_
  refine lv_iload_n hx hb dX7_cell_4 rfl (lv_at hl 0 rfl) ?_
  refine g_imul hx hb dX7_cell_5 ?_
  refine lv_iload_n hx hb dX7_cell_6 rfl (lv_at hl 1 rfl) ?_
  refine g_iadd hx hb dX7_cell_7 ?_
  refine g_imul hx hb dX7_cell_8 ?_
  refine lv_iload_n hx hb dX7_cell_9 rfl (lv_at hl 2 rfl) ?_
  refine g_iadd hx hb dX7_cell_10 ?_
  exact g_iret hx hb hr hlk hz G hv dX7_cell_11
abbrev rm_X7_isOf : Room := ({ frames := 1, cells := 0, slots := 0, locals := 22 } : Room)
theorem hd_X7_isOf : yX7_isOf.cls = RX7 ∧ yX7_isOf.cls ≠ "java/lang/invoke/MethodHandle" ∧ yX7_isOf.cls ≠ "java/lang/invoke/VarHandle" ∧ (parseMethodDescriptor yX7_isOf.desc).map (fun d => d.parameters.length) = some 3 := ⟨rfl, by decide +kernel, by decide +kernel, by decide +kernel⟩
set_option maxHeartbeats 4000000 in
set_option maxRecDepth 100000 in
theorem c_X7_isOf (l : Launch) (w : GW) (σ : St) (sz : Nat) (x1 x2 x3 : Int) (hp : pre_X7_isOf x1 x2 x3 σ) : Met l yX7_isOf (Cond.code yX7_isOf cX7_isOf 4 (some .boolean) :: wsL_law) rm_X7_isOf (gPc w gSL σ sz [.ref (gad w 80), .int (iz x1), .int (iz x2), .int (iz x3)]) (gQi w gSL sz (post_X7_isOf x1 x2 x3 σ)) 0 0 (gA w gSL.length sz) := by
  have hv : V_X7_isOf x1 x2 x3 σ (post_X7_isOf x1 x2 x3 σ) := v_X7_isOf x1 x2 x3 σ hp
  refine g_met (by decide) [.ref (gad w 80), .int (iz x1), .int (iz x2), .int (iz x3)] (Nat.le_of_ble_eq_true rfl) ?_
  intro p e s m below meth c ls hz C0 hl G
  obtain ⟨hx, hb, hr, hml, hown, hts, hlk, hNw, hA⟩ := id C0
  have hown : s.vm.findClass RX7 = some m.cls := hown
  have hl : lv_has ls 4 [(0, .ref (gad w 80)), (1, .int (iz x1)), (2, .int (iz x2)), (3, .int (iz x3))] := hl
  refine lv_iload_n hx hb dX7_isOf_0 rfl (lv_at hl 1 rfl) ?_
  refine lv_aload_n hx hb dX7_isOf_1 rfl (lv_at hl 0 rfl) ?_
  refine g_getR hx hb hts hown 0 81 inlX7 G sh_80 rfl (by decide) rfl wm_108 dX7_isOf_2 ?_
  refine lv_iconst (v := iz 0) hx hb dX7_isOf_5 rfl ?_
  refine g_ald hx hb G sh_81 (by decide) (by decide) (by decide) dX7_isOf_6 ?_
  obtain ⟨i1, hv⟩ := hv
  obtain ⟨i2, hv⟩ := hv
  refine g_icmp_ge (tgt := 30) hx hb i1 i2 dX7_isOf_7 (by decide) (fun c3 => ?_) (fun c3 => ?_)
  · have hv := hv.1 c3
    refine lv_iconst (v := iz 0) hx hb dX7_isOf_30 rfl ?_
    exact g_zret hx hb hr hlk hz G (Or.inl rfl) hv dX7_isOf_31
  · have hv := hv.2 c3
    refine lv_aload_n hx hb dX7_isOf_10 rfl (lv_at hl 0 rfl) ?_
    refine g_getR hx hb hts hown 0 81 inlX7 G sh_80 rfl (by decide) rfl wm_108 dX7_isOf_11 ?_
    refine lv_iconst (v := iz 1) hx hb dX7_isOf_14 rfl ?_
    refine lv_iload_n hx hb dX7_isOf_15 rfl (lv_at hl 1 rfl) ?_
    refine g_iadd hx hb dX7_isOf_16 ?_
    obtain ⟨o4, hv⟩ := hv
    refine g_ald hx hb G sh_81 o4.1 o4.2 (by decide) dX7_isOf_17 ?_
    refine lv_iload_n hx hb dX7_isOf_18 rfl (lv_at hl 2 rfl) ?_
    refine lv_iload_n hx hb dX7_isOf_19 rfl (lv_at hl 3 rfl) ?_
    obtain ⟨p5, hv⟩ := hv
    refine g_callSi (rest := []) hx hb hml hts hown hNw hA G [.int (iz (σ 81 (1 + x1))), .int (iz x2), .int (iz x3)] (c_X7_in l w σ _ (σ 81 (1 + x1)) x2 x3 p5) wm_176 wm_177 wm_5 wm_178 hd_X7_in ⟨rfl, rfl, Nat.le_of_ble_eq_true rfl, Nat.le_of_ble_eq_true rfl⟩ rfl hl.1 (Nat.le_of_ble_eq_true rfl) rfl dX7_isOf_20 ⟨Nat.zero_le _, Nat.zero_le _⟩ (fun r8 s6 H locs h7 G => ?_)
    obtain ⟨er8, es6⟩ := h7
    rw [es6] at G
    have hv := hv r8 er8
    obtain ⟨i9, hv⟩ := hv
    refine g_if_eq (tgt := 30) hx hb i9 dX7_isOf_23 (by decide) (fun c10 => ?_) (fun c10 => ?_)
    · have hv := hv.1 c10
      refine lv_iconst (v := iz 0) hx hb dX7_isOf_30 rfl ?_
      exact g_zret hx hb hr hlk hz G (Or.inl rfl) hv dX7_isOf_31
    · have hv := hv.2 c10
      refine lv_iconst (v := iz 1) hx hb dX7_isOf_26 rfl ?_
      refine lv_goto (tgt := 31) hx hb dX7_isOf_27 (by decide) ?_
      exact g_zret hx hb hr hlk hz G (Or.inr rfl) hv dX7_isOf_31
abbrev rm_X7_runEnd : Room := ({ frames := 2, cells := 0, slots := 0, locals := 45 } : Room)
theorem hd_X7_runEnd : yX7_runEnd.cls = RX7 ∧ yX7_runEnd.cls ≠ "java/lang/invoke/MethodHandle" ∧ yX7_runEnd.cls ≠ "java/lang/invoke/VarHandle" ∧ (parseMethodDescriptor yX7_runEnd.desc).map (fun d => d.parameters.length) = some 3 := ⟨rfl, by decide +kernel, by decide +kernel, by decide +kernel⟩
set_option maxHeartbeats 4000000 in
set_option maxRecDepth 100000 in
theorem lw_X7_runEnd_3 {p : Program} {l : Launch} {e : Env} {s : State} {m : MethodId} {args : Array Value} {below : List Frame} {meth : Method} {c : Code} {w : GW} {sz : Nat} (hz : s.heap.size = sz) (C0 : gC p s m args meth c cX7_runEnd (some .int) 5 yX7_runEnd.cls (gA w gSL.length sz)) (Q : Int → St → Prop) (y2 y3 : Int) : ∀ (n : Nat) (y4 : Int) (σ : St) (H : Heap) (locs : List Loc) (ls : Array Slot), L_X7_runEnd_3 Q y2 y3 n y4 σ → gS w gSL σ (gA w gSL.length sz) s s.heap H locs → lv_has ls 5 [(0, .ref (gad w 80)), (2, .int (iz y2)), (3, .int (iz y3)), (4, .int (iz y4))] → W p l e rm_X7_runEnd s m args below meth c H locs 0 0 (MQ below (gQi w gSL sz Q) args s 0 0 (gA w gSL.length sz)) (F0 m 3 ls []) := by
  obtain ⟨hx, hb, hr, hml, hown, hts, hlk, hNw, hA⟩ := id C0
  have hown : s.vm.findClass RX7 = some m.cls := hown
  intro n
  induction n with
  | zero => intro y4 σ H locs ls hv; exact hv.elim
  | succ n ih =>
    intro y4 σ H locs ls hv G hl
    refine lv_aload_n hx hb dX7_runEnd_3 rfl (lv_at hl 0 rfl) ?_
    refine lv_iload hx hb dX7_runEnd_4 (lv_at hl 3 rfl) ?_
    refine lv_iload_n hx hb dX7_runEnd_6 rfl (lv_at hl 1 rfl) ?_
    refine lv_iload_n hx hb dX7_runEnd_7 rfl (lv_at hl 2 rfl) ?_
    obtain ⟨p1, hv⟩ := hv
    refine g_callVi (rest := []) hx hb hml hts hown hNw hA G [.int (iz y4), .int (iz y2), .int (iz y3)] (c_X7_isOf l w σ _ y4 y2 y3 p1) sh_80 rfl wm_473 wm_474 wm_475 wm_5 wm_476 hd_X7_isOf ⟨rfl, rfl, Nat.le_of_ble_eq_true rfl, Nat.le_of_ble_eq_true rfl⟩ rfl hl.1 (Nat.le_of_ble_eq_true rfl) rfl dX7_runEnd_8 ⟨Nat.zero_le _, Nat.zero_le _⟩ (fun r4 s2 H locs h3 G => ?_)
    obtain ⟨er4, es2⟩ := h3
    rw [es2] at G
    have hv := hv r4 er4
    obtain ⟨i5, hv⟩ := hv
    refine g_if_eq (tgt := 20) hx hb i5 dX7_runEnd_11 (by decide) (fun c6 => ?_) (fun c6 => ?_)
    · have hv := hv.1 c6
      refine lv_iload hx hb dX7_runEnd_20 (lv_at hl 3 rfl) ?_
      exact g_iret hx hb hr hlk hz G hv dX7_runEnd_22
    · have hv := hv.2 c6
      refine g_iinc (k := 3) (x := y4) (n := 1) (lv' := [(4, .int (iz (y4 + 1))), (0, .ref (gad w 80)), (2, .int (iz y2)), (3, .int (iz y3))]) hx hb dX7_runEnd_14 hl rfl (by decide) rfl (fun ls hl => ?_)
      refine lv_goto (tgt := 3) hx hb dX7_runEnd_17 (by decide) ?_
      exact ih _ _ _ _ _ hv G (lv_sub hl [1, 2, 3, 0] rfl)
set_option maxHeartbeats 4000000 in
set_option maxRecDepth 100000 in
theorem c_X7_runEnd (l : Launch) (w : GW) (σ : St) (sz : Nat) (x1 x2 x3 : Int) (hp : pre_X7_runEnd x1 x2 x3 σ) : Met l yX7_runEnd (Cond.code yX7_runEnd cX7_runEnd 5 (some .int) :: wsL_law) rm_X7_runEnd (gPc w gSL σ sz [.ref (gad w 80), .int (iz x1), .int (iz x2), .int (iz x3)]) (gQi w gSL sz (post_X7_runEnd x1 x2 x3 σ)) 0 0 (gA w gSL.length sz) := by
  have hv : V_X7_runEnd x1 x2 x3 σ (post_X7_runEnd x1 x2 x3 σ) := v_X7_runEnd x1 x2 x3 σ hp
  refine g_met (by decide) [.ref (gad w 80), .int (iz x1), .int (iz x2), .int (iz x3)] (Nat.le_of_ble_eq_true rfl) ?_
  intro p e s m below meth c ls hz C0 hl G
  obtain ⟨hx, hb, hr, hml, hown, hts, hlk, hNw, hA⟩ := id C0
  have hown : s.vm.findClass RX7 = some m.cls := hown
  have hl : lv_has ls 5 [(0, .ref (gad w 80)), (1, .int (iz x1)), (2, .int (iz x2)), (3, .int (iz x3))] := hl
  refine lv_iload_n hx hb dX7_runEnd_0 rfl (lv_at hl 1 rfl) ?_
  refine lv_istore (lv' := [(4, .int (iz x1)), (0, .ref (gad w 80)), (1, .int (iz x1)), (2, .int (iz x2)), (3, .int (iz x3))]) hx hb dX7_runEnd_1 hl (by decide) rfl (fun ls hl => ?_)
  obtain ⟨n_, hv⟩ := hv
  exact lw_X7_runEnd_3 (l := l) (p := p) (e := e) hz C0 _ x2 x3 n_ _ _ _ _ _ hv G (lv_sub hl [1, 3, 4, 0] rfl)
abbrev rm_X7_elementEnd : Room := ({ frames := 3, cells := 0, slots := 0, locals := 69 } : Room)
theorem hd_X7_elementEnd : yX7_elementEnd.cls = RX7 ∧ yX7_elementEnd.cls ≠ "java/lang/invoke/MethodHandle" ∧ yX7_elementEnd.cls ≠ "java/lang/invoke/VarHandle" ∧ (parseMethodDescriptor yX7_elementEnd.desc).map (fun d => d.parameters.length) = some 2 := ⟨rfl, by decide +kernel, by decide +kernel, by decide +kernel⟩
set_option maxHeartbeats 4000000 in
set_option maxRecDepth 100000 in
theorem c_X7_elementEnd (l : Launch) (w : GW) (σ : St) (sz : Nat) (x1 x2 : Int) (hp : pre_X7_elementEnd x1 x2 σ) : Met l yX7_elementEnd (Cond.code yX7_elementEnd cX7_elementEnd 4 (some .int) :: wsL_law) rm_X7_elementEnd (gPc w gSL σ sz [.ref (gad w 80), .int (iz x1), .int (iz x2)]) (gQi w gSL sz (post_X7_elementEnd x1 x2 σ)) 0 0 (gA w gSL.length sz) := by
  have hv : V_X7_elementEnd x1 x2 σ (post_X7_elementEnd x1 x2 σ) := v_X7_elementEnd x1 x2 σ hp
  refine g_met (by decide) [.ref (gad w 80), .int (iz x1), .int (iz x2)] (Nat.le_of_ble_eq_true rfl) ?_
  intro p e s m below meth c ls hz C0 hl G
  obtain ⟨hx, hb, hr, hml, hown, hts, hlk, hNw, hA⟩ := id C0
  have hown : s.vm.findClass RX7 = some m.cls := hown
  have hl : lv_has ls 4 [(0, .ref (gad w 80)), (1, .int (iz x1)), (2, .int (iz x2))] := hl
  refine lv_iload_n hx hb dX7_elementEnd_0 rfl (lv_at hl 1 rfl) ?_
  obtain ⟨p1, hv⟩ := hv
  refine g_callSi (rest := []) hx hb hml hts hown hNw hA G [.int (iz x1)] (c_X7_isReference l w σ _ x1 p1) wm_284 wm_285 wm_5 wm_286 hd_X7_isReference ⟨rfl, rfl, Nat.le_of_ble_eq_true rfl, Nat.le_of_ble_eq_true rfl⟩ rfl hl.1 (Nat.le_of_ble_eq_true rfl) rfl dX7_elementEnd_1 ⟨Nat.zero_le _, Nat.zero_le _⟩ (fun r4 s2 H locs h3 G => ?_)
  obtain ⟨er4, es2⟩ := h3
  rw [es2] at G
  have hv := hv r4 er4
  obtain ⟨i5, hv⟩ := hv
  refine g_if_eq (tgt := 22) hx hb i5 dX7_elementEnd_4 (by decide) (fun c6 => ?_) (fun c6 => ?_)
  · have hv := hv.1 c6
    refine lv_iload_n hx hb dX7_elementEnd_22 rfl (lv_at hl 1 rfl) ?_
    refine lv_bipush (v := iz 35) hx hb dX7_elementEnd_23 (by decide +kernel) ?_
    obtain ⟨i7, hv⟩ := hv
    refine g_icmp_eq (tgt := 34) hx hb i7 ⟨by decide, by decide⟩ dX7_elementEnd_25 (by decide) (fun c8 => ?_) (fun c8 => ?_)
    · have hv := hv.1 c8
      refine lv_iload_n hx hb dX7_elementEnd_34 rfl (lv_at hl 1 rfl) ?_
      refine lv_bipush (v := iz 35) hx hb dX7_elementEnd_35 (by decide +kernel) ?_
      refine g_icmp_ne (tgt := 52) hx hb i7 ⟨by decide, by decide⟩ dX7_elementEnd_37 (by decide) (fun c9 => ?_) (fun c9 => ?_)
      · have hv := hv.1 c9
        refine lv_aload_n hx hb dX7_elementEnd_52 rfl (lv_at hl 0 rfl) ?_
        refine lv_iload_n hx hb dX7_elementEnd_53 rfl (lv_at hl 2 rfl) ?_
        refine lv_bipush (v := iz 97) hx hb dX7_elementEnd_54 (by decide +kernel) ?_
        refine lv_bipush (v := iz 122) hx hb dX7_elementEnd_56 (by decide +kernel) ?_
        obtain ⟨p10, hv⟩ := hv
        refine g_callVi (rest := []) hx hb hml hts hown hNw hA G [.int (iz x2), .int (iz 97), .int (iz 122)] (c_X7_runEnd l w σ _ x2 97 122 p10) sh_80 rfl wm_469 wm_470 wm_471 wm_5 wm_472 hd_X7_runEnd ⟨rfl, rfl, Nat.le_of_ble_eq_true rfl, Nat.le_of_ble_eq_true rfl⟩ rfl hl.1 (Nat.le_of_ble_eq_true rfl) rfl dX7_elementEnd_58 ⟨Nat.zero_le _, Nat.zero_le _⟩ (fun r13 s11 H locs h12 G => ?_)
        obtain ⟨er13, es11⟩ := h12
        rw [es11] at G
        have hv := hv r13 er13
        refine lv_istore_n (lv' := [(3, .int (iz r13)), (0, .ref (gad w 80)), (1, .int (iz x1)), (2, .int (iz x2))]) hx hb dX7_elementEnd_61 rfl hl (by decide) rfl (fun ls hl => ?_)
        refine lv_iload_n hx hb dX7_elementEnd_62 rfl (lv_at hl 0 rfl) ?_
        refine lv_iload_n hx hb dX7_elementEnd_63 rfl (lv_at hl 3 rfl) ?_
        obtain ⟨i14, hv⟩ := hv
        obtain ⟨i15, hv⟩ := hv
        refine g_icmp_le (tgt := 71) hx hb i14 i15 dX7_elementEnd_64 (by decide) (fun c16 => ?_) (fun c16 => ?_)
        · have hv := hv.1 c16
          refine lv_iconst (v := iz (-1)) hx hb dX7_elementEnd_71 rfl ?_
          exact g_iret hx hb hr hlk hz G hv dX7_elementEnd_72
        · have hv := hv.2 c16
          refine lv_iload_n hx hb dX7_elementEnd_67 rfl (lv_at hl 0 rfl) ?_
          refine lv_goto (tgt := 72) hx hb dX7_elementEnd_68 (by decide) ?_
          exact g_iret hx hb hr hlk hz G hv dX7_elementEnd_72
      · have hv := hv.2 c9
        refine lv_aload_n hx hb dX7_elementEnd_40 rfl (lv_at hl 0 rfl) ?_
        refine lv_iload_n hx hb dX7_elementEnd_41 rfl (lv_at hl 2 rfl) ?_
        refine lv_bipush (v := iz 48) hx hb dX7_elementEnd_42 (by decide +kernel) ?_
        refine lv_bipush (v := iz 57) hx hb dX7_elementEnd_44 (by decide +kernel) ?_
        obtain ⟨p17, hv⟩ := hv
        refine g_callVi (rest := []) hx hb hml hts hown hNw hA G [.int (iz x2), .int (iz 48), .int (iz 57)] (c_X7_runEnd l w σ _ x2 48 57 p17) sh_80 rfl wm_469 wm_470 wm_471 wm_5 wm_472 hd_X7_runEnd ⟨rfl, rfl, Nat.le_of_ble_eq_true rfl, Nat.le_of_ble_eq_true rfl⟩ rfl hl.1 (Nat.le_of_ble_eq_true rfl) rfl dX7_elementEnd_46 ⟨Nat.zero_le _, Nat.zero_le _⟩ (fun r20 s18 H locs h19 G => ?_)
        obtain ⟨er20, es18⟩ := h19
        rw [es18] at G
        have hv := hv r20 er20
        refine lv_goto (tgt := 61) hx hb dX7_elementEnd_49 (by decide) ?_
        refine lv_istore_n (lv' := [(3, .int (iz r20)), (0, .ref (gad w 80)), (1, .int (iz x1)), (2, .int (iz x2))]) hx hb dX7_elementEnd_61 rfl hl (by decide) rfl (fun ls hl => ?_)
        refine lv_iload_n hx hb dX7_elementEnd_62 rfl (lv_at hl 0 rfl) ?_
        refine lv_iload_n hx hb dX7_elementEnd_63 rfl (lv_at hl 3 rfl) ?_
        obtain ⟨i21, hv⟩ := hv
        obtain ⟨i22, hv⟩ := hv
        refine g_icmp_le (tgt := 71) hx hb i21 i22 dX7_elementEnd_64 (by decide) (fun c23 => ?_) (fun c23 => ?_)
        · have hv := hv.1 c23
          refine lv_iconst (v := iz (-1)) hx hb dX7_elementEnd_71 rfl ?_
          exact g_iret hx hb hr hlk hz G hv dX7_elementEnd_72
        · have hv := hv.2 c23
          refine lv_iload_n hx hb dX7_elementEnd_67 rfl (lv_at hl 0 rfl) ?_
          refine lv_goto (tgt := 72) hx hb dX7_elementEnd_68 (by decide) ?_
          exact g_iret hx hb hr hlk hz G hv dX7_elementEnd_72
    · have hv := hv.2 c8
      refine lv_iload_n hx hb dX7_elementEnd_28 rfl (lv_at hl 1 rfl) ?_
      refine lv_bipush (v := iz 64) hx hb dX7_elementEnd_29 (by decide +kernel) ?_
      refine g_icmp_ne (tgt := 73) hx hb i7 ⟨by decide, by decide⟩ dX7_elementEnd_31 (by decide) (fun c24 => ?_) (fun c24 => ?_)
      · have hv := hv.1 c24
        refine lv_aload_n hx hb dX7_elementEnd_73 rfl (lv_at hl 0 rfl) ?_
        refine lv_iload_n hx hb dX7_elementEnd_74 rfl (lv_at hl 2 rfl) ?_
        refine lv_iload_n hx hb dX7_elementEnd_75 rfl (lv_at hl 1 rfl) ?_
        refine lv_iload_n hx hb dX7_elementEnd_76 rfl (lv_at hl 1 rfl) ?_
        obtain ⟨p25, hv⟩ := hv
        refine g_callVi (rest := []) hx hb hml hts hown hNw hA G [.int (iz x2), .int (iz x1), .int (iz x1)] (c_X7_isOf l w σ _ x2 x1 x1 p25) sh_80 rfl wm_473 wm_474 wm_475 wm_5 wm_476 hd_X7_isOf ⟨rfl, rfl, Nat.le_of_ble_eq_true rfl, Nat.le_of_ble_eq_true rfl⟩ rfl hl.1 (Nat.le_of_ble_eq_true rfl) rfl dX7_elementEnd_77 ⟨Nat.zero_le _, Nat.zero_le _⟩ (fun r28 s26 H locs h27 G => ?_)
        obtain ⟨er28, es26⟩ := h27
        rw [es26] at G
        have hv := hv r28 er28
        obtain ⟨i29, hv⟩ := hv
        refine g_if_eq (tgt := 89) hx hb i29 dX7_elementEnd_80 (by decide) (fun c30 => ?_) (fun c30 => ?_)
        · have hv := hv.1 c30
          refine lv_iconst (v := iz (-1)) hx hb dX7_elementEnd_89 rfl ?_
          exact g_iret hx hb hr hlk hz G hv dX7_elementEnd_90
        · have hv := hv.2 c30
          refine lv_iload_n hx hb dX7_elementEnd_83 rfl (lv_at hl 2 rfl) ?_
          refine lv_iconst (v := iz 1) hx hb dX7_elementEnd_84 rfl ?_
          refine g_iadd hx hb dX7_elementEnd_85 ?_
          refine lv_goto (tgt := 90) hx hb dX7_elementEnd_86 (by decide) ?_
          exact g_iret hx hb hr hlk hz G hv dX7_elementEnd_90
      · have hv := hv.2 c24
        refine lv_iload_n hx hb dX7_elementEnd_34 rfl (lv_at hl 1 rfl) ?_
        refine lv_bipush (v := iz 35) hx hb dX7_elementEnd_35 (by decide +kernel) ?_
        refine g_icmp_ne (tgt := 52) hx hb i7 ⟨by decide, by decide⟩ dX7_elementEnd_37 (by decide) (fun c31 => ?_) (fun c31 => ?_)
        · have hv := hv.1 c31
          refine lv_aload_n hx hb dX7_elementEnd_52 rfl (lv_at hl 0 rfl) ?_
          refine lv_iload_n hx hb dX7_elementEnd_53 rfl (lv_at hl 2 rfl) ?_
          refine lv_bipush (v := iz 97) hx hb dX7_elementEnd_54 (by decide +kernel) ?_
          refine lv_bipush (v := iz 122) hx hb dX7_elementEnd_56 (by decide +kernel) ?_
          obtain ⟨p32, hv⟩ := hv
          refine g_callVi (rest := []) hx hb hml hts hown hNw hA G [.int (iz x2), .int (iz 97), .int (iz 122)] (c_X7_runEnd l w σ _ x2 97 122 p32) sh_80 rfl wm_469 wm_470 wm_471 wm_5 wm_472 hd_X7_runEnd ⟨rfl, rfl, Nat.le_of_ble_eq_true rfl, Nat.le_of_ble_eq_true rfl⟩ rfl hl.1 (Nat.le_of_ble_eq_true rfl) rfl dX7_elementEnd_58 ⟨Nat.zero_le _, Nat.zero_le _⟩ (fun r35 s33 H locs h34 G => ?_)
          obtain ⟨er35, es33⟩ := h34
          rw [es33] at G
          have hv := hv r35 er35
          refine lv_istore_n (lv' := [(3, .int (iz r35)), (0, .ref (gad w 80)), (1, .int (iz x1)), (2, .int (iz x2))]) hx hb dX7_elementEnd_61 rfl hl (by decide) rfl (fun ls hl => ?_)
          refine lv_iload_n hx hb dX7_elementEnd_62 rfl (lv_at hl 0 rfl) ?_
          refine lv_iload_n hx hb dX7_elementEnd_63 rfl (lv_at hl 3 rfl) ?_
          obtain ⟨i36, hv⟩ := hv
          obtain ⟨i37, hv⟩ := hv
          refine g_icmp_le (tgt := 71) hx hb i36 i37 dX7_elementEnd_64 (by decide) (fun c38 => ?_) (fun c38 => ?_)
          · have hv := hv.1 c38
            refine lv_iconst (v := iz (-1)) hx hb dX7_elementEnd_71 rfl ?_
            exact g_iret hx hb hr hlk hz G hv dX7_elementEnd_72
          · have hv := hv.2 c38
            refine lv_iload_n hx hb dX7_elementEnd_67 rfl (lv_at hl 0 rfl) ?_
            refine lv_goto (tgt := 72) hx hb dX7_elementEnd_68 (by decide) ?_
            exact g_iret hx hb hr hlk hz G hv dX7_elementEnd_72
        · have hv := hv.2 c31
          refine lv_aload_n hx hb dX7_elementEnd_40 rfl (lv_at hl 0 rfl) ?_
          refine lv_iload_n hx hb dX7_elementEnd_41 rfl (lv_at hl 2 rfl) ?_
          refine lv_bipush (v := iz 48) hx hb dX7_elementEnd_42 (by decide +kernel) ?_
          refine lv_bipush (v := iz 57) hx hb dX7_elementEnd_44 (by decide +kernel) ?_
          obtain ⟨p39, hv⟩ := hv
          refine g_callVi (rest := []) hx hb hml hts hown hNw hA G [.int (iz x2), .int (iz 48), .int (iz 57)] (c_X7_runEnd l w σ _ x2 48 57 p39) sh_80 rfl wm_469 wm_470 wm_471 wm_5 wm_472 hd_X7_runEnd ⟨rfl, rfl, Nat.le_of_ble_eq_true rfl, Nat.le_of_ble_eq_true rfl⟩ rfl hl.1 (Nat.le_of_ble_eq_true rfl) rfl dX7_elementEnd_46 ⟨Nat.zero_le _, Nat.zero_le _⟩ (fun r42 s40 H locs h41 G => ?_)
          obtain ⟨er42, es40⟩ := h41
          rw [es40] at G
          have hv := hv r42 er42
          refine lv_goto (tgt := 61) hx hb dX7_elementEnd_49 (by decide) ?_
          refine lv_istore_n (lv' := [(3, .int (iz r42)), (0, .ref (gad w 80)), (1, .int (iz x1)), (2, .int (iz x2))]) hx hb dX7_elementEnd_61 rfl hl (by decide) rfl (fun ls hl => ?_)
          refine lv_iload_n hx hb dX7_elementEnd_62 rfl (lv_at hl 0 rfl) ?_
          refine lv_iload_n hx hb dX7_elementEnd_63 rfl (lv_at hl 3 rfl) ?_
          obtain ⟨i43, hv⟩ := hv
          obtain ⟨i44, hv⟩ := hv
          refine g_icmp_le (tgt := 71) hx hb i43 i44 dX7_elementEnd_64 (by decide) (fun c45 => ?_) (fun c45 => ?_)
          · have hv := hv.1 c45
            refine lv_iconst (v := iz (-1)) hx hb dX7_elementEnd_71 rfl ?_
            exact g_iret hx hb hr hlk hz G hv dX7_elementEnd_72
          · have hv := hv.2 c45
            refine lv_iload_n hx hb dX7_elementEnd_67 rfl (lv_at hl 0 rfl) ?_
            refine lv_goto (tgt := 72) hx hb dX7_elementEnd_68 (by decide) ?_
            exact g_iret hx hb hr hlk hz G hv dX7_elementEnd_72
  · have hv := hv.2 c6
    refine lv_aload_n hx hb dX7_elementEnd_7 rfl (lv_at hl 0 rfl) ?_
    refine g_getR hx hb hts hown 6 85 inlX7 G sh_80 rfl (by decide) rfl wm_112 dX7_elementEnd_8 ?_
    refine lv_iload_n hx hb dX7_elementEnd_11 rfl (lv_at hl 1 rfl) ?_
    refine lv_bipush (v := iz 65) hx hb dX7_elementEnd_12 (by decide +kernel) ?_
    refine g_isub hx hb dX7_elementEnd_14 ?_
    refine lv_iconst (v := iz 0) hx hb dX7_elementEnd_15 rfl ?_
    refine lv_iload_n hx hb dX7_elementEnd_16 rfl (lv_at hl 2 rfl) ?_
    obtain ⟨p46, hv⟩ := hv
    refine g_callSi (rest := [.ref (gad w 85)]) hx hb hml hts hown hNw hA G [.int (iz (x1 - 65)), .int (iz 0), .int (iz x2)] (c_X7_cell l w σ _ (x1 - 65) 0 x2 p46) wm_450 wm_451 wm_5 wm_452 hd_X7_cell ⟨rfl, rfl, Nat.le_of_ble_eq_true rfl, Nat.le_of_ble_eq_true rfl⟩ rfl hl.1 (Nat.le_of_ble_eq_true rfl) rfl dX7_elementEnd_17 ⟨Nat.zero_le _, Nat.zero_le _⟩ (fun r49 s47 H locs h48 G => ?_)
    obtain ⟨er49, es47⟩ := h48
    rw [es47] at G
    have hv := hv r49 er49
    obtain ⟨o50, hv⟩ := hv
    refine g_ald hx hb G sh_85 o50.1 o50.2 (by decide) dX7_elementEnd_20 ?_
    exact g_iret hx hb hr hlk hz G hv dX7_elementEnd_21
abbrev rm_X7_islandAt : Room := ({ frames := 1, cells := 0, slots := 0, locals := 22 } : Room)
theorem hd_X7_islandAt : yX7_islandAt.cls = RX7 ∧ yX7_islandAt.cls ≠ "java/lang/invoke/MethodHandle" ∧ yX7_islandAt.cls ≠ "java/lang/invoke/VarHandle" ∧ (parseMethodDescriptor yX7_islandAt.desc).map (fun d => d.parameters.length) = some 1 := ⟨rfl, by decide +kernel, by decide +kernel, by decide +kernel⟩
set_option maxHeartbeats 4000000 in
set_option maxRecDepth 100000 in
theorem lw_X7_islandAt_2 {p : Program} {l : Launch} {e : Env} {s : State} {m : MethodId} {args : Array Value} {below : List Frame} {meth : Method} {c : Code} {w : GW} {sz : Nat} (hz : s.heap.size = sz) (C0 : gC p s m args meth c cX7_islandAt (some .int) 3 yX7_islandAt.cls (gA w gSL.length sz)) (Q : Int → St → Prop) (y1 : Int) : ∀ (n : Nat) (y2 : Int) (σ : St) (H : Heap) (locs : List Loc) (ls : Array Slot), L_X7_islandAt_2 Q y1 n y2 σ → gS w gSL σ (gA w gSL.length sz) s s.heap H locs → lv_has ls 3 [(0, .ref (gad w 80)), (1, .int (iz y1)), (2, .int (iz y2))] → W p l e rm_X7_islandAt s m args below meth c H locs 0 0 (MQ below (gQi w gSL sz Q) args s 0 0 (gA w gSL.length sz)) (F0 m 2 ls []) := by
  obtain ⟨hx, hb, hr, hml, hown, hts, hlk, hNw, hA⟩ := id C0
  have hown : s.vm.findClass RX7 = some m.cls := hown
  intro n
  induction n with
  | zero => intro y2 σ H locs ls hv; exact hv.elim
  | succ n ih =>
    intro y2 σ H locs ls hv G hl
    refine lv_iload_n hx hb dX7_islandAt_2 rfl (lv_at hl 2 rfl) ?_
    refine lv_bipush (v := iz 6) hx hb dX7_islandAt_3 (by decide +kernel) ?_
    obtain ⟨i1, hv⟩ := hv
    refine g_icmp_ge (tgt := 31) hx hb i1 ⟨by decide, by decide⟩ dX7_islandAt_5 (by decide) (fun c2 => ?_) (fun c2 => ?_)
    · have hv := hv.1 c2
      refine lv_iconst (v := iz (-1)) hx hb dX7_islandAt_31 rfl ?_
      exact g_iret hx hb hr hlk hz G hv dX7_islandAt_32
    · have hv := hv.2 c2
      refine lv_aload_n hx hb dX7_islandAt_8 rfl (lv_at hl 0 rfl) ?_
      refine g_getR hx hb hts hown 6 85 inlX7 G sh_80 rfl (by decide) rfl wm_112 dX7_islandAt_9 ?_
      refine lv_iload_n hx hb dX7_islandAt_12 rfl (lv_at hl 2 rfl) ?_
      refine lv_iconst (v := iz 0) hx hb dX7_islandAt_13 rfl ?_
      refine lv_iload_n hx hb dX7_islandAt_14 rfl (lv_at hl 1 rfl) ?_
      obtain ⟨p3, hv⟩ := hv
      refine g_callSi (rest := [.ref (gad w 85)]) hx hb hml hts hown hNw hA G [.int (iz y2), .int (iz 0), .int (iz y1)] (c_X7_cell l w σ _ y2 0 y1 p3) wm_450 wm_451 wm_5 wm_452 hd_X7_cell ⟨rfl, rfl, Nat.le_of_ble_eq_true rfl, Nat.le_of_ble_eq_true rfl⟩ rfl hl.1 (Nat.le_of_ble_eq_true rfl) rfl dX7_islandAt_15 ⟨Nat.zero_le _, Nat.zero_le _⟩ (fun r6 s4 H locs h5 G => ?_)
      obtain ⟨er6, es4⟩ := h5
      rw [es4] at G
      have hv := hv r6 er6
      obtain ⟨o7, hv⟩ := hv
      refine g_ald hx hb G sh_85 o7.1 o7.2 (by decide) dX7_islandAt_18 ?_
      refine lv_iconst (v := iz (-1)) hx hb dX7_islandAt_19 rfl ?_
      obtain ⟨i8, hv⟩ := hv
      refine g_icmp_eq (tgt := 25) hx hb i8 ⟨by decide, by decide⟩ dX7_islandAt_20 (by decide) (fun c9 => ?_) (fun c9 => ?_)
      · have hv := hv.1 c9
        refine g_iinc (k := 2) (x := y2) (n := 1) (lv' := [(2, .int (iz (y2 + 1))), (0, .ref (gad w 80)), (1, .int (iz y1))]) hx hb dX7_islandAt_25 hl rfl (by decide) rfl (fun ls hl => ?_)
        refine lv_goto (tgt := 2) hx hb dX7_islandAt_28 (by decide) ?_
        exact ih _ _ _ _ _ hv G (lv_sub hl [1, 2, 0] rfl)
      · have hv := hv.2 c9
        refine lv_iload_n hx hb dX7_islandAt_23 rfl (lv_at hl 2 rfl) ?_
        exact g_iret hx hb hr hlk hz G hv dX7_islandAt_24
set_option maxHeartbeats 4000000 in
set_option maxRecDepth 100000 in
theorem c_X7_islandAt (l : Launch) (w : GW) (σ : St) (sz : Nat) (x1 : Int) (hp : pre_X7_islandAt x1 σ) : Met l yX7_islandAt (Cond.code yX7_islandAt cX7_islandAt 3 (some .int) :: wsL_law) rm_X7_islandAt (gPc w gSL σ sz [.ref (gad w 80), .int (iz x1)]) (gQi w gSL sz (post_X7_islandAt x1 σ)) 0 0 (gA w gSL.length sz) := by
  have hv : V_X7_islandAt x1 σ (post_X7_islandAt x1 σ) := v_X7_islandAt x1 σ hp
  refine g_met (by decide) [.ref (gad w 80), .int (iz x1)] (Nat.le_of_ble_eq_true rfl) ?_
  intro p e s m below meth c ls hz C0 hl G
  obtain ⟨hx, hb, hr, hml, hown, hts, hlk, hNw, hA⟩ := id C0
  have hown : s.vm.findClass RX7 = some m.cls := hown
  have hl : lv_has ls 3 [(0, .ref (gad w 80)), (1, .int (iz x1))] := hl
  refine lv_iconst (v := iz 0) hx hb dX7_islandAt_0 rfl ?_
  refine lv_istore_n (lv' := [(2, .int (iz 0)), (0, .ref (gad w 80)), (1, .int (iz x1))]) hx hb dX7_islandAt_1 rfl hl (by decide) rfl (fun ls hl => ?_)
  obtain ⟨n_, hv⟩ := hv
  exact lw_X7_islandAt_2 (l := l) (p := p) (e := e) hz C0 _ x1 n_ _ _ _ _ _ hv G (lv_sub hl [1, 2, 0] rfl)
abbrev rm_X7_waterEnd : Room := ({ frames := 2, cells := 0, slots := 0, locals := 44 } : Room)
theorem hd_X7_waterEnd : yX7_waterEnd.cls = RX7 ∧ yX7_waterEnd.cls ≠ "java/lang/invoke/MethodHandle" ∧ yX7_waterEnd.cls ≠ "java/lang/invoke/VarHandle" ∧ (parseMethodDescriptor yX7_waterEnd.desc).map (fun d => d.parameters.length) = some 3 := ⟨rfl, by decide +kernel, by decide +kernel, by decide +kernel⟩
set_option maxHeartbeats 4000000 in
set_option maxRecDepth 100000 in
theorem c_X7_waterEnd (l : Launch) (w : GW) (σ : St) (sz : Nat) (x1 x2 x3 : Int) (hp : pre_X7_waterEnd x1 x2 x3 σ) : Met l yX7_waterEnd (Cond.code yX7_waterEnd cX7_waterEnd 7 (some .int) :: wsL_law) rm_X7_waterEnd (gPc w gSL σ sz [.ref (gad w 80), .int (iz x1), .int (iz x2), .int (iz x3)]) (gQi w gSL sz (post_X7_waterEnd x1 x2 x3 σ)) 0 0 (gA w gSL.length sz) := by
  have hv : V_X7_waterEnd x1 x2 x3 σ (post_X7_waterEnd x1 x2 x3 σ) := v_X7_waterEnd x1 x2 x3 σ hp
  refine g_met (by decide) [.ref (gad w 80), .int (iz x1), .int (iz x2), .int (iz x3)] (Nat.le_of_ble_eq_true rfl) ?_
  intro p e s m below meth c ls hz C0 hl G
  obtain ⟨hx, hb, hr, hml, hown, hts, hlk, hNw, hA⟩ := id C0
  have hown : s.vm.findClass RX7 = some m.cls := hown
  have hl : lv_has ls 7 [(0, .ref (gad w 80)), (1, .int (iz x1)), (2, .int (iz x2)), (3, .int (iz x3))] := hl
  refine lv_aload_n hx hb dX7_waterEnd_0 rfl (lv_at hl 0 rfl) ?_
  refine g_getR hx hb hts hown 6 85 inlX7 G sh_80 rfl (by decide) rfl wm_112 dX7_waterEnd_1 ?_
  refine lv_iload_n hx hb dX7_waterEnd_4 rfl (lv_at hl 1 rfl) ?_
  refine lv_iload_n hx hb dX7_waterEnd_5 rfl (lv_at hl 2 rfl) ?_
  refine lv_iconst (v := iz 1) hx hb dX7_waterEnd_6 rfl ?_
  refine g_iadd hx hb dX7_waterEnd_7 ?_
  refine lv_iload_n hx hb dX7_waterEnd_8 rfl (lv_at hl 3 rfl) ?_
  obtain ⟨p1, hv⟩ := hv
  refine g_callSi (rest := [.ref (gad w 85)]) hx hb hml hts hown hNw hA G [.int (iz x1), .int (iz (x2 + 1)), .int (iz x3)] (c_X7_cell l w σ _ x1 (x2 + 1) x3 p1) wm_450 wm_451 wm_5 wm_452 hd_X7_cell ⟨rfl, rfl, Nat.le_of_ble_eq_true rfl, Nat.le_of_ble_eq_true rfl⟩ rfl hl.1 (Nat.le_of_ble_eq_true rfl) rfl dX7_waterEnd_9 ⟨Nat.zero_le _, Nat.zero_le _⟩ (fun r4 s2 H locs h3 G => ?_)
  obtain ⟨er4, es2⟩ := h3
  rw [es2] at G
  have hv := hv r4 er4
  obtain ⟨o5, hv⟩ := hv
  refine g_ald hx hb G sh_85 o5.1 o5.2 (by decide) dX7_waterEnd_12 ?_
  refine lv_istore (lv' := [(4, .int (iz (σ 85 r4))), (0, .ref (gad w 80)), (1, .int (iz x1)), (2, .int (iz x2)), (3, .int (iz x3))]) hx hb dX7_waterEnd_13 hl (by decide) rfl (fun ls hl => ?_)
  refine lv_iload hx hb dX7_waterEnd_15 (lv_at hl 0 rfl) ?_
  refine lv_iconst (v := iz (-1)) hx hb dX7_waterEnd_17 rfl ?_
  obtain ⟨i6, hv⟩ := hv
  refine g_icmp_eq (tgt := 24) hx hb i6 ⟨by decide, by decide⟩ dX7_waterEnd_18 (by decide) (fun c7 => ?_) (fun c7 => ?_)
  · have hv := hv.1 c7
    refine lv_aload_n hx hb dX7_waterEnd_24 rfl (lv_at hl 1 rfl) ?_
    refine lv_iload_n hx hb dX7_waterEnd_25 rfl (lv_at hl 4 rfl) ?_
    obtain ⟨p8, hv⟩ := hv
    refine g_callVi (rest := []) hx hb hml hts hown hNw hA G [.int (iz x3)] (c_X7_islandAt l w σ _ x3 p8) sh_80 rfl wm_461 wm_462 wm_463 wm_5 wm_464 hd_X7_islandAt ⟨rfl, rfl, Nat.le_of_ble_eq_true rfl, Nat.le_of_ble_eq_true rfl⟩ rfl hl.1 (Nat.le_of_ble_eq_true rfl) rfl dX7_waterEnd_26 ⟨Nat.zero_le _, Nat.zero_le _⟩ (fun r11 s9 H locs h10 G => ?_)
    obtain ⟨er11, es9⟩ := h10
    rw [es9] at G
    have hv := hv r11 er11
    refine lv_istore (lv' := [(5, .int (iz r11)), (4, .int (iz (σ 85 r4))), (0, .ref (gad w 80)), (1, .int (iz x1)), (2, .int (iz x2)), (3, .int (iz x3))]) hx hb dX7_waterEnd_29 hl (by decide) rfl (fun ls hl => ?_)
    refine lv_iload hx hb dX7_waterEnd_31 (lv_at hl 0 rfl) ?_
    refine lv_iconst (v := iz (-1)) hx hb dX7_waterEnd_33 rfl ?_
    obtain ⟨i12, hv⟩ := hv
    refine g_icmp_eq (tgt := 60) hx hb i12 ⟨by decide, by decide⟩ dX7_waterEnd_34 (by decide) (fun c13 => ?_) (fun c13 => ?_)
    · have hv := hv.1 c13
      refine lv_iload_n hx hb dX7_waterEnd_60 rfl (lv_at hl 5 rfl) ?_
      refine lv_aload_n hx hb dX7_waterEnd_61 rfl (lv_at hl 2 rfl) ?_
      refine g_getR hx hb hts hown 0 81 inlX7 G sh_80 rfl (by decide) rfl wm_108 dX7_waterEnd_62 ?_
      refine lv_iconst (v := iz 0) hx hb dX7_waterEnd_65 rfl ?_
      refine g_ald hx hb G sh_81 (by decide) (by decide) (by decide) dX7_waterEnd_66 ?_
      obtain ⟨i14, hv⟩ := hv
      obtain ⟨i15, hv⟩ := hv
      refine g_icmp_eq (tgt := 91) hx hb i14 i15 dX7_waterEnd_67 (by decide) (fun c16 => ?_) (fun c16 => ?_)
      · have hv := hv.1 c16
        refine lv_iconst (v := iz 1) hx hb dX7_waterEnd_91 rfl ?_
        refine lv_goto (tgt := 96) hx hb dX7_waterEnd_92 (by decide) ?_
        refine lv_istore (lv' := [(6, .int (iz 1)), (5, .int (iz r11)), (4, .int (iz (σ 85 r4))), (0, .ref (gad w 80)), (1, .int (iz x1)), (2, .int (iz x2)), (3, .int (iz x3))]) hx hb dX7_waterEnd_96 hl (by decide) rfl (fun ls hl => ?_)
        refine lv_iload hx hb dX7_waterEnd_98 (lv_at hl 0 rfl) ?_
        refine g_if_eq (tgt := 107) hx hb ⟨by decide, by decide⟩ dX7_waterEnd_100 (by decide) (fun c => absurd c (by decide)) (fun _ => ?_)
        refine lv_iconst (v := iz (-1)) hx hb dX7_waterEnd_103 rfl ?_
        refine lv_goto (tgt := 120) hx hb dX7_waterEnd_104 (by decide) ?_
        exact g_iret hx hb hr hlk hz G hv dX7_waterEnd_120
      · have hv := hv.2 c16
        refine lv_aload_n hx hb dX7_waterEnd_70 rfl (lv_at hl 2 rfl) ?_
        refine g_getR hx hb hts hown 0 81 inlX7 G sh_80 rfl (by decide) rfl wm_108 dX7_waterEnd_71 ?_
        refine lv_iconst (v := iz 1) hx hb dX7_waterEnd_74 rfl ?_
        refine lv_iload_n hx hb dX7_waterEnd_75 rfl (lv_at hl 5 rfl) ?_
        refine g_iadd hx hb dX7_waterEnd_76 ?_
        obtain ⟨o17, hv⟩ := hv
        refine g_ald hx hb G sh_81 o17.1 o17.2 (by decide) dX7_waterEnd_77 ?_
        refine lv_aload_n hx hb dX7_waterEnd_78 rfl (lv_at hl 2 rfl) ?_
        refine g_getR hx hb hts hown 0 81 inlX7 G sh_80 rfl (by decide) rfl wm_108 dX7_waterEnd_79 ?_
        refine lv_sipush (v := iz 155) hx hb dX7_waterEnd_82 (by decide +kernel) ?_
        refine lv_iload_n hx hb dX7_waterEnd_85 rfl (lv_at hl 3 rfl) ?_
        refine g_iadd hx hb dX7_waterEnd_86 ?_
        obtain ⟨o18, hv⟩ := hv
        refine g_ald hx hb G sh_81 o18.1 o18.2 (by decide) dX7_waterEnd_87 ?_
        obtain ⟨i19, hv⟩ := hv
        obtain ⟨i20, hv⟩ := hv
        refine g_icmp_ne (tgt := 95) hx hb i19 i20 dX7_waterEnd_88 (by decide) (fun c21 => ?_) (fun c21 => ?_)
        · have hv := hv.1 c21
          refine lv_iconst (v := iz 0) hx hb dX7_waterEnd_95 rfl ?_
          refine lv_istore (lv' := [(6, .int (iz 0)), (5, .int (iz r11)), (4, .int (iz (σ 85 r4))), (0, .ref (gad w 80)), (1, .int (iz x1)), (2, .int (iz x2)), (3, .int (iz x3))]) hx hb dX7_waterEnd_96 hl (by decide) rfl (fun ls hl => ?_)
          refine lv_iload hx hb dX7_waterEnd_98 (lv_at hl 0 rfl) ?_
          refine g_if_eq (tgt := 107) hx hb ⟨by decide, by decide⟩ dX7_waterEnd_100 (by decide) (fun _ => ?_) (fun c => absurd c (by decide))
          refine lv_aload_n hx hb dX7_waterEnd_107 rfl (lv_at hl 3 rfl) ?_
          refine g_getR hx hb hts hown 6 85 inlX7 G sh_80 rfl (by decide) rfl wm_112 dX7_waterEnd_108 ?_
          refine lv_iload_n hx hb dX7_waterEnd_111 rfl (lv_at hl 4 rfl) ?_
          refine lv_iload_n hx hb dX7_waterEnd_112 rfl (lv_at hl 5 rfl) ?_
          refine lv_iload_n hx hb dX7_waterEnd_113 rfl (lv_at hl 6 rfl) ?_
          refine lv_iconst (v := iz 1) hx hb dX7_waterEnd_114 rfl ?_
          refine g_iadd hx hb dX7_waterEnd_115 ?_
          obtain ⟨p22, hv⟩ := hv
          refine g_callSi (rest := [.ref (gad w 85)]) hx hb hml hts hown hNw hA G [.int (iz x1), .int (iz x2), .int (iz (x3 + 1))] (c_X7_cell l w σ _ x1 x2 (x3 + 1) p22) wm_450 wm_451 wm_5 wm_452 hd_X7_cell ⟨rfl, rfl, Nat.le_of_ble_eq_true rfl, Nat.le_of_ble_eq_true rfl⟩ rfl hl.1 (Nat.le_of_ble_eq_true rfl) rfl dX7_waterEnd_116 ⟨Nat.zero_le _, Nat.zero_le _⟩ (fun r25 s23 H locs h24 G => ?_)
          obtain ⟨er25, es23⟩ := h24
          rw [es23] at G
          have hv := hv r25 er25
          obtain ⟨o26, hv⟩ := hv
          refine g_ald hx hb G sh_85 o26.1 o26.2 (by decide) dX7_waterEnd_119 ?_
          exact g_iret hx hb hr hlk hz G hv dX7_waterEnd_120
        · have hv := hv.2 c21
          refine lv_iconst (v := iz 1) hx hb dX7_waterEnd_91 rfl ?_
          refine lv_goto (tgt := 96) hx hb dX7_waterEnd_92 (by decide) ?_
          refine lv_istore (lv' := [(6, .int (iz 1)), (5, .int (iz r11)), (4, .int (iz (σ 85 r4))), (0, .ref (gad w 80)), (1, .int (iz x1)), (2, .int (iz x2)), (3, .int (iz x3))]) hx hb dX7_waterEnd_96 hl (by decide) rfl (fun ls hl => ?_)
          refine lv_iload hx hb dX7_waterEnd_98 (lv_at hl 0 rfl) ?_
          refine g_if_eq (tgt := 107) hx hb ⟨by decide, by decide⟩ dX7_waterEnd_100 (by decide) (fun c => absurd c (by decide)) (fun _ => ?_)
          refine lv_iconst (v := iz (-1)) hx hb dX7_waterEnd_103 rfl ?_
          refine lv_goto (tgt := 120) hx hb dX7_waterEnd_104 (by decide) ?_
          exact g_iret hx hb hr hlk hz G hv dX7_waterEnd_120
    · have hv := hv.2 c13
      refine lv_aload_n hx hb dX7_waterEnd_37 rfl (lv_at hl 2 rfl) ?_
      refine g_getR hx hb hts hown 6 85 inlX7 G sh_80 rfl (by decide) rfl wm_112 dX7_waterEnd_38 ?_
      refine lv_iload_n hx hb dX7_waterEnd_41 rfl (lv_at hl 3 rfl) ?_
      refine lv_iload_n hx hb dX7_waterEnd_42 rfl (lv_at hl 4 rfl) ?_
      refine lv_aload_n hx hb dX7_waterEnd_43 rfl (lv_at hl 2 rfl) ?_
      refine g_getR hx hb hts hown 6 85 inlX7 G sh_80 rfl (by decide) rfl wm_112 dX7_waterEnd_44 ?_
      refine lv_iload hx hb dX7_waterEnd_47 (lv_at hl 0 rfl) ?_
      refine lv_iconst (v := iz 0) hx hb dX7_waterEnd_49 rfl ?_
      refine lv_iload_n hx hb dX7_waterEnd_50 rfl (lv_at hl 5 rfl) ?_
      obtain ⟨p27, hv⟩ := hv
      refine g_callSi (rest := [.ref (gad w 85), .int (iz x2), .int (iz x1), .ref (gad w 85)]) hx hb hml hts hown hNw hA G [.int (iz r11), .int (iz 0), .int (iz x3)] (c_X7_cell l w σ _ r11 0 x3 p27) wm_450 wm_451 wm_5 wm_452 hd_X7_cell ⟨rfl, rfl, Nat.le_of_ble_eq_true rfl, Nat.le_of_ble_eq_true rfl⟩ rfl hl.1 (Nat.le_of_ble_eq_true rfl) rfl dX7_waterEnd_51 ⟨Nat.zero_le _, Nat.zero_le _⟩ (fun r30 s28 H locs h29 G => ?_)
      obtain ⟨er30, es28⟩ := h29
      rw [es28] at G
      have hv := hv r30 er30
      obtain ⟨o31, hv⟩ := hv
      refine g_ald hx hb G sh_85 o31.1 o31.2 (by decide) dX7_waterEnd_54 ?_
      obtain ⟨p32, hv⟩ := hv
      refine g_callSi (rest := [.ref (gad w 85)]) hx hb hml hts hown hNw hA G [.int (iz x1), .int (iz x2), .int (iz (σ 85 r30))] (c_X7_cell l w σ _ x1 x2 (σ 85 r30) p32) wm_450 wm_451 wm_5 wm_452 hd_X7_cell ⟨rfl, rfl, Nat.le_of_ble_eq_true rfl, Nat.le_of_ble_eq_true rfl⟩ rfl hl.1 (Nat.le_of_ble_eq_true rfl) rfl dX7_waterEnd_55 ⟨Nat.zero_le _, Nat.zero_le _⟩ (fun r35 s33 H locs h34 G => ?_)
      obtain ⟨er35, es33⟩ := h34
      rw [es33] at G
      have hv := hv r35 er35
      obtain ⟨o36, hv⟩ := hv
      refine g_ald hx hb G sh_85 o36.1 o36.2 (by decide) dX7_waterEnd_58 ?_
      exact g_iret hx hb hr hlk hz G hv dX7_waterEnd_59
  · have hv := hv.2 c7
    refine lv_iload hx hb dX7_waterEnd_21 (lv_at hl 0 rfl) ?_
    exact g_iret hx hb hr hlk hz G hv dX7_waterEnd_23
abbrev rm_X7_suffixEnd : Room := ({ frames := 4, cells := 0, slots := 0, locals := 92 } : Room)
theorem hd_X7_suffixEnd : yX7_suffixEnd.cls = RX7 ∧ yX7_suffixEnd.cls ≠ "java/lang/invoke/MethodHandle" ∧ yX7_suffixEnd.cls ≠ "java/lang/invoke/VarHandle" ∧ (parseMethodDescriptor yX7_suffixEnd.desc).map (fun d => d.parameters.length) = some 3 := ⟨rfl, by decide +kernel, by decide +kernel, by decide +kernel⟩
set_option maxHeartbeats 4000000 in
set_option maxRecDepth 100000 in
theorem c_X7_suffixEnd (l : Launch) (w : GW) (σ : St) (sz : Nat) (x1 x2 x3 : Int) (hp : pre_X7_suffixEnd x1 x2 x3 σ) : Met l yX7_suffixEnd (Cond.code yX7_suffixEnd cX7_suffixEnd 6 (some .int) :: wsL_law) rm_X7_suffixEnd (gPc w gSL σ sz [.ref (gad w 80), .int (iz x1), .int (iz x2), .int (iz x3)]) (gQi w gSL sz (post_X7_suffixEnd x1 x2 x3 σ)) 0 0 (gA w gSL.length sz) := by
  have hv : V_X7_suffixEnd x1 x2 x3 σ (post_X7_suffixEnd x1 x2 x3 σ) := v_X7_suffixEnd x1 x2 x3 σ hp
  refine g_met (by decide) [.ref (gad w 80), .int (iz x1), .int (iz x2), .int (iz x3)] (Nat.le_of_ble_eq_true rfl) ?_
  intro p e s m below meth c ls hz C0 hl G
  obtain ⟨hx, hb, hr, hml, hown, hts, hlk, hNw, hA⟩ := id C0
  have hown : s.vm.findClass RX7 = some m.cls := hown
  have hl : lv_has ls 6 [(0, .ref (gad w 80)), (1, .int (iz x1)), (2, .int (iz x2)), (3, .int (iz x3))] := hl
  refine lv_iload_n hx hb dX7_suffixEnd_0 rfl (lv_at hl 2 rfl) ?_
  refine lv_aload_n hx hb dX7_suffixEnd_1 rfl (lv_at hl 0 rfl) ?_
  refine g_getR hx hb hts hown 0 81 inlX7 G sh_80 rfl (by decide) rfl wm_108 dX7_suffixEnd_2 ?_
  refine lv_bipush (v := iz 101) hx hb dX7_suffixEnd_5 (by decide +kernel) ?_
  refine lv_iload_n hx hb dX7_suffixEnd_7 rfl (lv_at hl 1 rfl) ?_
  refine g_iadd hx hb dX7_suffixEnd_8 ?_
  obtain ⟨o1, hv⟩ := hv
  refine g_ald hx hb G sh_81 o1.1 o1.2 (by decide) dX7_suffixEnd_9 ?_
  obtain ⟨i2, hv⟩ := hv
  obtain ⟨i3, hv⟩ := hv
  refine g_icmp_ne (tgt := 23) hx hb i2 i3 dX7_suffixEnd_10 (by decide) (fun c4 => ?_) (fun c4 => ?_)
  · have hv := hv.1 c4
    refine lv_aload_n hx hb dX7_suffixEnd_23 rfl (lv_at hl 0 rfl) ?_
    refine lv_iload_n hx hb dX7_suffixEnd_24 rfl (lv_at hl 1 rfl) ?_
    refine lv_iload_n hx hb dX7_suffixEnd_25 rfl (lv_at hl 2 rfl) ?_
    obtain ⟨p5, hv⟩ := hv
    refine g_callVi (rest := []) hx hb hml hts hown hNw hA G [.int (iz x1), .int (iz x2)] (c_X7_elementOf l w σ _ x1 x2 p5) sh_80 rfl wm_327 wm_328 wm_329 wm_5 wm_330 hd_X7_elementOf ⟨rfl, rfl, Nat.le_of_ble_eq_true rfl, Nat.le_of_ble_eq_true rfl⟩ rfl hl.1 (Nat.le_of_ble_eq_true rfl) rfl dX7_suffixEnd_26 ⟨Nat.zero_le _, Nat.zero_le _⟩ (fun r8 s6 H locs h7 G => ?_)
    obtain ⟨er8, es6⟩ := h7
    rw [es6] at G
    have hv := hv r8 er8
    refine lv_istore (lv' := [(4, .int (iz r8)), (0, .ref (gad w 80)), (1, .int (iz x1)), (2, .int (iz x2)), (3, .int (iz x3))]) hx hb dX7_suffixEnd_29 hl (by decide) rfl (fun ls hl => ?_)
    refine lv_iload hx hb dX7_suffixEnd_31 (lv_at hl 0 rfl) ?_
    refine lv_bipush (v := iz 126) hx hb dX7_suffixEnd_33 (by decide +kernel) ?_
    obtain ⟨i9, hv⟩ := hv
    refine g_icmp_ne (tgt := 46) hx hb i9 ⟨by decide, by decide⟩ dX7_suffixEnd_35 (by decide) (fun c10 => ?_) (fun c10 => ?_)
    · have hv := hv.1 c10
      refine lv_aload_n hx hb dX7_suffixEnd_46 rfl (lv_at hl 1 rfl) ?_
      refine lv_iload hx hb dX7_suffixEnd_47 (lv_at hl 0 rfl) ?_
      refine lv_iload_n hx hb dX7_suffixEnd_49 rfl (lv_at hl 4 rfl) ?_
      obtain ⟨p11, hv⟩ := hv
      refine g_callVi (rest := []) hx hb hml hts hown hNw hA G [.int (iz r8), .int (iz x3)] (c_X7_elementEnd l w σ _ r8 x3 p11) sh_80 rfl wm_465 wm_466 wm_467 wm_5 wm_468 hd_X7_elementEnd ⟨rfl, rfl, Nat.le_of_ble_eq_true rfl, Nat.le_of_ble_eq_true rfl⟩ rfl hl.1 (Nat.le_of_ble_eq_true rfl) rfl dX7_suffixEnd_50 ⟨Nat.zero_le _, Nat.zero_le _⟩ (fun r14 s12 H locs h13 G => ?_)
      obtain ⟨er14, es12⟩ := h13
      rw [es12] at G
      have hv := hv r14 er14
      refine lv_istore (lv' := [(5, .int (iz r14)), (4, .int (iz r8)), (0, .ref (gad w 80)), (1, .int (iz x1)), (2, .int (iz x2)), (3, .int (iz x3))]) hx hb dX7_suffixEnd_53 hl (by decide) rfl (fun ls hl => ?_)
      refine lv_iload hx hb dX7_suffixEnd_55 (lv_at hl 0 rfl) ?_
      refine lv_iconst (v := iz (-1)) hx hb dX7_suffixEnd_57 rfl ?_
      obtain ⟨i15, hv⟩ := hv
      refine g_icmp_ne (tgt := 65) hx hb i15 ⟨by decide, by decide⟩ dX7_suffixEnd_58 (by decide) (fun c16 => ?_) (fun c16 => ?_)
      · have hv := hv.1 c16
        refine lv_aload_n hx hb dX7_suffixEnd_65 rfl (lv_at hl 2 rfl) ?_
        refine g_getR hx hb hts hown 6 85 inlX7 G sh_80 rfl (by decide) rfl wm_112 dX7_suffixEnd_66 ?_
        refine lv_iload_n hx hb dX7_suffixEnd_69 rfl (lv_at hl 3 rfl) ?_
        refine lv_iload_n hx hb dX7_suffixEnd_70 rfl (lv_at hl 4 rfl) ?_
        refine lv_iconst (v := iz 1) hx hb dX7_suffixEnd_71 rfl ?_
        refine g_iadd hx hb dX7_suffixEnd_72 ?_
        refine lv_iload hx hb dX7_suffixEnd_73 (lv_at hl 0 rfl) ?_
        obtain ⟨p17, hv⟩ := hv
        refine g_callSi (rest := [.ref (gad w 85)]) hx hb hml hts hown hNw hA G [.int (iz x1), .int (iz (x2 + 1)), .int (iz r14)] (c_X7_cell l w σ _ x1 (x2 + 1) r14 p17) wm_450 wm_451 wm_5 wm_452 hd_X7_cell ⟨rfl, rfl, Nat.le_of_ble_eq_true rfl, Nat.le_of_ble_eq_true rfl⟩ rfl hl.1 (Nat.le_of_ble_eq_true rfl) rfl dX7_suffixEnd_75 ⟨Nat.zero_le _, Nat.zero_le _⟩ (fun r20 s18 H locs h19 G => ?_)
        obtain ⟨er20, es18⟩ := h19
        rw [es18] at G
        have hv := hv r20 er20
        obtain ⟨o21, hv⟩ := hv
        refine g_ald hx hb G sh_85 o21.1 o21.2 (by decide) dX7_suffixEnd_78 ?_
        exact g_iret hx hb hr hlk hz G hv dX7_suffixEnd_79
      · have hv := hv.2 c16
        refine lv_iconst (v := iz (-1)) hx hb dX7_suffixEnd_61 rfl ?_
        refine lv_goto (tgt := 79) hx hb dX7_suffixEnd_62 (by decide) ?_
        exact g_iret hx hb hr hlk hz G hv dX7_suffixEnd_79
    · have hv := hv.2 c10
      refine lv_aload_n hx hb dX7_suffixEnd_38 rfl (lv_at hl 1 rfl) ?_
      refine lv_iload_n hx hb dX7_suffixEnd_39 rfl (lv_at hl 2 rfl) ?_
      refine lv_iload_n hx hb dX7_suffixEnd_40 rfl (lv_at hl 3 rfl) ?_
      refine lv_iload_n hx hb dX7_suffixEnd_41 rfl (lv_at hl 4 rfl) ?_
      obtain ⟨p22, hv⟩ := hv
      refine g_callVi (rest := []) hx hb hml hts hown hNw hA G [.int (iz x1), .int (iz x2), .int (iz x3)] (c_X7_waterEnd l w σ _ x1 x2 x3 p22) sh_80 rfl wm_457 wm_458 wm_459 wm_5 wm_460 hd_X7_waterEnd ⟨rfl, rfl, Nat.le_of_ble_eq_true rfl, Nat.le_of_ble_eq_true rfl⟩ rfl hl.1 (Nat.le_of_ble_eq_true rfl) rfl dX7_suffixEnd_42 ⟨Nat.zero_le _, Nat.zero_le _⟩ (fun r25 s23 H locs h24 G => ?_)
      obtain ⟨er25, es23⟩ := h24
      rw [es23] at G
      have hv := hv r25 er25
      exact g_iret hx hb hr hlk hz G hv dX7_suffixEnd_45
  · have hv := hv.2 c4
    refine lv_iload_n hx hb dX7_suffixEnd_13 rfl (lv_at hl 2 rfl) ?_
    refine g_if_ne (tgt := 21) hx hb i2 dX7_suffixEnd_14 (by decide) (fun c26 => ?_) (fun c26 => ?_)
    · have hv := hv.1 c26
      refine lv_iload_n hx hb dX7_suffixEnd_21 rfl (lv_at hl 3 rfl) ?_
      exact g_iret hx hb hr hlk hz G hv dX7_suffixEnd_22
    · have hv := hv.2 c26
      refine lv_iconst (v := iz (-1)) hx hb dX7_suffixEnd_17 rfl ?_
      refine lv_goto (tgt := 22) hx hb dX7_suffixEnd_18 (by decide) ?_
      exact g_iret hx hb hr hlk hz G hv dX7_suffixEnd_22
abbrev rm_X7_findEnds : Room := ({ frames := 5, cells := 0, slots := 0, locals := 117 } : Room)
theorem hd_X7_findEnds : yX7_findEnds.cls = RX7 ∧ yX7_findEnds.cls ≠ "java/lang/invoke/MethodHandle" ∧ yX7_findEnds.cls ≠ "java/lang/invoke/VarHandle" ∧ (parseMethodDescriptor yX7_findEnds.desc).map (fun d => d.parameters.length) = some 0 := ⟨rfl, by decide +kernel, by decide +kernel, by decide +kernel⟩
set_option maxHeartbeats 4000000 in
set_option maxRecDepth 100000 in
theorem lw_X7_findEnds_13 {p : Program} {l : Launch} {e : Env} {s : State} {m : MethodId} {args : Array Value} {below : List Frame} {meth : Method} {c : Code} {w : GW} {sz : Nat} (hz : s.heap.size = sz) (C0 : gC p s m args meth c cX7_findEnds none 4 yX7_findEnds.cls (gA w gSL.length sz)) (Q : St → Prop) (K : St → Prop) (y1 : Int) (hK : ∀ (σ : St) (H : Heap) (locs : List Loc) (ls : Array Slot), K  σ → gS w gSL σ (gA w gSL.length sz) s s.heap H locs → lv_has ls 4 [(0, .ref (gad w 80)), (1, .int (iz y1))] → W p l e rm_X7_findEnds s m args below meth c H locs 0 0 (MQ below (gQv w gSL sz Q) args s 0 0 (gA w gSL.length sz)) (F0 m 43 ls [])) : ∀ (n : Nat) (y2 : Int) (σ : St) (H : Heap) (locs : List Loc) (ls : Array Slot), L_X7_findEnds_13 Q K y1 n y2 σ → gS w gSL σ (gA w gSL.length sz) s s.heap H locs → lv_has ls 4 [(0, .ref (gad w 80)), (1, .int (iz y1)), (2, .int (iz y2))] → W p l e rm_X7_findEnds s m args below meth c H locs 0 0 (MQ below (gQv w gSL sz Q) args s 0 0 (gA w gSL.length sz)) (F0 m 13 ls []) := by
  obtain ⟨hx, hb, hr, hml, hown, hts, hlk, hNw, hA⟩ := id C0
  have hown : s.vm.findClass RX7 = some m.cls := hown
  intro n
  induction n with
  | zero => intro y2 σ H locs ls hv; exact hv.elim
  | succ n ih =>
    intro y2 σ H locs ls hv G hl
    refine lv_iload_n hx hb dX7_findEnds_13 rfl (lv_at hl 2 rfl) ?_
    refine lv_bipush (v := iz 6) hx hb dX7_findEnds_14 (by decide +kernel) ?_
    obtain ⟨i3, hv⟩ := hv
    refine g_icmp_ge (tgt := 43) hx hb i3 ⟨by decide, by decide⟩ dX7_findEnds_16 (by decide) (fun c4 => ?_) (fun c4 => ?_)
    · have hv := hv.1 c4
      exact hK  _ _ _ _ hv G (lv_sub hl [0, 1] rfl)
    · have hv := hv.2 c4
      refine lv_aload_n hx hb dX7_findEnds_19 rfl (lv_at hl 0 rfl) ?_
      refine g_getR hx hb hts hown 6 85 inlX7 G sh_80 rfl (by decide) rfl wm_112 dX7_findEnds_20 ?_
      refine lv_iload_n hx hb dX7_findEnds_23 rfl (lv_at hl 2 rfl) ?_
      refine lv_iconst (v := iz 0) hx hb dX7_findEnds_24 rfl ?_
      refine lv_iload_n hx hb dX7_findEnds_25 rfl (lv_at hl 1 rfl) ?_
      obtain ⟨p5, hv⟩ := hv
      refine g_callSi (rest := [.ref (gad w 85)]) hx hb hml hts hown hNw hA G [.int (iz y2), .int (iz 0), .int (iz y1)] (c_X7_cell l w σ _ y2 0 y1 p5) wm_450 wm_451 wm_5 wm_452 hd_X7_cell ⟨rfl, rfl, Nat.le_of_ble_eq_true rfl, Nat.le_of_ble_eq_true rfl⟩ rfl hl.1 (Nat.le_of_ble_eq_true rfl) rfl dX7_findEnds_26 ⟨Nat.zero_le _, Nat.zero_le _⟩ (fun r8 s6 H locs h7 G => ?_)
      obtain ⟨er8, es6⟩ := h7
      rw [es6] at G
      have hv := hv r8 er8
      refine lv_aload_n hx hb dX7_findEnds_29 rfl (lv_at hl 0 rfl) ?_
      refine lv_iload_n hx hb dX7_findEnds_30 rfl (lv_at hl 2 rfl) ?_
      refine lv_iconst (v := iz 0) hx hb dX7_findEnds_31 rfl ?_
      refine lv_iload_n hx hb dX7_findEnds_32 rfl (lv_at hl 1 rfl) ?_
      obtain ⟨p9, hv⟩ := hv
      refine g_callVi (rest := [.int (iz r8), .ref (gad w 85)]) hx hb hml hts hown hNw hA G [.int (iz y2), .int (iz 0), .int (iz y1)] (c_X7_suffixEnd l w σ _ y2 0 y1 p9) sh_80 rfl wm_453 wm_454 wm_455 wm_5 wm_456 hd_X7_suffixEnd ⟨rfl, rfl, Nat.le_of_ble_eq_true rfl, Nat.le_of_ble_eq_true rfl⟩ rfl hl.1 (Nat.le_of_ble_eq_true rfl) rfl dX7_findEnds_33 ⟨Nat.zero_le _, Nat.zero_le _⟩ (fun r12 s10 H locs h11 G => ?_)
      obtain ⟨er12, es10⟩ := h11
      rw [es10] at G
      have hv := hv r12 er12
      obtain ⟨o13, hv⟩ := hv
      refine g_ast hx hb G sh_85 o13.1 o13.2 (by decide) dX7_findEnds_36 (fun s14 es14 H locs G => ?_)
      have hv := hv s14 es14
      refine g_iinc (k := 2) (x := y2) (n := 1) (lv' := [(2, .int (iz (y2 + 1))), (0, .ref (gad w 80)), (1, .int (iz y1))]) hx hb dX7_findEnds_37 hl rfl (by decide) rfl (fun ls hl => ?_)
      refine lv_goto (tgt := 13) hx hb dX7_findEnds_40 (by decide) ?_
      exact ih _ _ _ _ _ hv G (lv_sub hl [1, 2, 0] rfl)
set_option maxHeartbeats 4000000 in
set_option maxRecDepth 100000 in
theorem lw_X7_findEnds_61 {p : Program} {l : Launch} {e : Env} {s : State} {m : MethodId} {args : Array Value} {below : List Frame} {meth : Method} {c : Code} {w : GW} {sz : Nat} (hz : s.heap.size = sz) (C0 : gC p s m args meth c cX7_findEnds none 4 yX7_findEnds.cls (gA w gSL.length sz)) (Q : St → Prop) (K : St → Prop) (y1 y2 : Int) (hK : ∀ (σ : St) (H : Heap) (locs : List Loc) (ls : Array Slot), K  σ → gS w gSL σ (gA w gSL.length sz) s s.heap H locs → lv_has ls 4 [(0, .ref (gad w 80)), (1, .int (iz y1)), (2, .int (iz y2))] → W p l e rm_X7_findEnds s m args below meth c H locs 0 0 (MQ below (gQv w gSL sz Q) args s 0 0 (gA w gSL.length sz)) (F0 m 89 ls [])) : ∀ (n : Nat) (y3 : Int) (σ : St) (H : Heap) (locs : List Loc) (ls : Array Slot), L_X7_findEnds_61 Q K y1 y2 n y3 σ → gS w gSL σ (gA w gSL.length sz) s s.heap H locs → lv_has ls 4 [(0, .ref (gad w 80)), (1, .int (iz y1)), (2, .int (iz y2)), (3, .int (iz y3))] → W p l e rm_X7_findEnds s m args below meth c H locs 0 0 (MQ below (gQv w gSL sz Q) args s 0 0 (gA w gSL.length sz)) (F0 m 61 ls []) := by
  obtain ⟨hx, hb, hr, hml, hown, hts, hlk, hNw, hA⟩ := id C0
  have hown : s.vm.findClass RX7 = some m.cls := hown
  intro n
  induction n with
  | zero => intro y3 σ H locs ls hv; exact hv.elim
  | succ n ih =>
    intro y3 σ H locs ls hv G hl
    refine lv_iload_n hx hb dX7_findEnds_61 rfl (lv_at hl 3 rfl) ?_
    obtain ⟨i19, hv⟩ := hv
    refine g_if_le (tgt := 89) hx hb i19 dX7_findEnds_62 (by decide) (fun c20 => ?_) (fun c20 => ?_)
    · have hv := hv.1 c20
      exact hK  _ _ _ _ hv G (lv_sub hl [0, 1, 2] rfl)
    · have hv := hv.2 c20
      refine lv_aload_n hx hb dX7_findEnds_65 rfl (lv_at hl 0 rfl) ?_
      refine g_getR hx hb hts hown 6 85 inlX7 G sh_80 rfl (by decide) rfl wm_112 dX7_findEnds_66 ?_
      refine lv_iload_n hx hb dX7_findEnds_69 rfl (lv_at hl 2 rfl) ?_
      refine lv_iload_n hx hb dX7_findEnds_70 rfl (lv_at hl 3 rfl) ?_
      refine lv_iload_n hx hb dX7_findEnds_71 rfl (lv_at hl 1 rfl) ?_
      obtain ⟨p21, hv⟩ := hv
      refine g_callSi (rest := [.ref (gad w 85)]) hx hb hml hts hown hNw hA G [.int (iz y2), .int (iz y3), .int (iz y1)] (c_X7_cell l w σ _ y2 y3 y1 p21) wm_450 wm_451 wm_5 wm_452 hd_X7_cell ⟨rfl, rfl, Nat.le_of_ble_eq_true rfl, Nat.le_of_ble_eq_true rfl⟩ rfl hl.1 (Nat.le_of_ble_eq_true rfl) rfl dX7_findEnds_72 ⟨Nat.zero_le _, Nat.zero_le _⟩ (fun r24 s22 H locs h23 G => ?_)
      obtain ⟨er24, es22⟩ := h23
      rw [es22] at G
      have hv := hv r24 er24
      refine lv_aload_n hx hb dX7_findEnds_75 rfl (lv_at hl 0 rfl) ?_
      refine lv_iload_n hx hb dX7_findEnds_76 rfl (lv_at hl 2 rfl) ?_
      refine lv_iload_n hx hb dX7_findEnds_77 rfl (lv_at hl 3 rfl) ?_
      refine lv_iload_n hx hb dX7_findEnds_78 rfl (lv_at hl 1 rfl) ?_
      obtain ⟨p25, hv⟩ := hv
      refine g_callVi (rest := [.int (iz r24), .ref (gad w 85)]) hx hb hml hts hown hNw hA G [.int (iz y2), .int (iz y3), .int (iz y1)] (c_X7_suffixEnd l w σ _ y2 y3 y1 p25) sh_80 rfl wm_453 wm_454 wm_455 wm_5 wm_456 hd_X7_suffixEnd ⟨rfl, rfl, Nat.le_of_ble_eq_true rfl, Nat.le_of_ble_eq_true rfl⟩ rfl hl.1 (Nat.le_of_ble_eq_true rfl) rfl dX7_findEnds_79 ⟨Nat.zero_le _, Nat.zero_le _⟩ (fun r28 s26 H locs h27 G => ?_)
      obtain ⟨er28, es26⟩ := h27
      rw [es26] at G
      have hv := hv r28 er28
      obtain ⟨o29, hv⟩ := hv
      refine g_ast hx hb G sh_85 o29.1 o29.2 (by decide) dX7_findEnds_82 (fun s30 es30 H locs G => ?_)
      have hv := hv s30 es30
      refine g_iinc (k := 3) (x := y3) (n := (-1)) (lv' := [(3, .int (iz (y3 + (-1)))), (0, .ref (gad w 80)), (1, .int (iz y1)), (2, .int (iz y2))]) hx hb dX7_findEnds_83 hl rfl (by decide) rfl (fun ls hl => ?_)
      refine lv_goto (tgt := 61) hx hb dX7_findEnds_86 (by decide) ?_
      exact ih _ _ _ _ _ hv G (lv_sub hl [1, 2, 3, 0] rfl)
set_option maxHeartbeats 4000000 in
set_option maxRecDepth 100000 in
theorem lw_X7_findEnds_45 {p : Program} {l : Launch} {e : Env} {s : State} {m : MethodId} {args : Array Value} {below : List Frame} {meth : Method} {c : Code} {w : GW} {sz : Nat} (hz : s.heap.size = sz) (C0 : gC p s m args meth c cX7_findEnds none 4 yX7_findEnds.cls (gA w gSL.length sz)) (Q : St → Prop) (K : St → Prop) (y1 : Int) (hK : ∀ (σ : St) (H : Heap) (locs : List Loc) (ls : Array Slot), K  σ → gS w gSL σ (gA w gSL.length sz) s s.heap H locs → lv_has ls 4 [(0, .ref (gad w 80)), (1, .int (iz y1))] → W p l e rm_X7_findEnds s m args below meth c H locs 0 0 (MQ below (gQv w gSL sz Q) args s 0 0 (gA w gSL.length sz)) (F0 m 95 ls [])) : ∀ (n : Nat) (y2 : Int) (σ : St) (H : Heap) (locs : List Loc) (ls : Array Slot), L_X7_findEnds_45 Q K y1 n y2 σ → gS w gSL σ (gA w gSL.length sz) s s.heap H locs → lv_has ls 4 [(0, .ref (gad w 80)), (1, .int (iz y1)), (2, .int (iz y2))] → W p l e rm_X7_findEnds s m args below meth c H locs 0 0 (MQ below (gQv w gSL sz Q) args s 0 0 (gA w gSL.length sz)) (F0 m 45 ls []) := by
  obtain ⟨hx, hb, hr, hml, hown, hts, hlk, hNw, hA⟩ := id C0
  have hown : s.vm.findClass RX7 = some m.cls := hown
  intro n
  induction n with
  | zero => intro y2 σ H locs ls hv; exact hv.elim
  | succ n ih =>
    intro y2 σ H locs ls hv G hl
    refine lv_iload_n hx hb dX7_findEnds_45 rfl (lv_at hl 2 rfl) ?_
    refine lv_bipush (v := iz 6) hx hb dX7_findEnds_46 (by decide +kernel) ?_
    obtain ⟨i16, hv⟩ := hv
    refine g_icmp_ge (tgt := 95) hx hb i16 ⟨by decide, by decide⟩ dX7_findEnds_48 (by decide) (fun c17 => ?_) (fun c17 => ?_)
    · have hv := hv.1 c17
      exact hK  _ _ _ _ hv G (lv_sub hl [0, 1] rfl)
    · have hv := hv.2 c17
      refine lv_aload_n hx hb dX7_findEnds_51 rfl (lv_at hl 0 rfl) ?_
      refine g_getR hx hb hts hown 0 81 inlX7 G sh_80 rfl (by decide) rfl wm_108 dX7_findEnds_52 ?_
      refine lv_bipush (v := iz 101) hx hb dX7_findEnds_55 (by decide +kernel) ?_
      refine lv_iload_n hx hb dX7_findEnds_57 rfl (lv_at hl 2 rfl) ?_
      refine g_iadd hx hb dX7_findEnds_58 ?_
      obtain ⟨o18, hv⟩ := hv
      refine g_ald hx hb G sh_81 o18.1 o18.2 (by decide) dX7_findEnds_59 ?_
      refine lv_istore_n (lv' := [(3, .int (iz (σ 81 (101 + y2)))), (0, .ref (gad w 80)), (1, .int (iz y1)), (2, .int (iz y2))]) hx hb dX7_findEnds_60 rfl hl (by decide) rfl (fun ls hl => ?_)
      obtain ⟨n_, hv⟩ := hv
      refine lw_X7_findEnds_61 (l := l) (p := p) (e := e) hz C0 Q _ y1 y2 (fun  s31 H locs ls hv G hl => ?_) n_ _ _ _ _ _ hv G (lv_sub hl [1, 2, 3, 0] rfl)
      refine g_iinc (k := 2) (x := y2) (n := 1) (lv' := [(2, .int (iz (y2 + 1))), (0, .ref (gad w 80)), (1, .int (iz y1))]) hx hb dX7_findEnds_89 hl rfl (by decide) rfl (fun ls hl => ?_)
      refine lv_goto (tgt := 45) hx hb dX7_findEnds_92 (by decide) ?_
      exact ih _ _ _ _ _ hv G (lv_sub hl [1, 2, 0] rfl)
set_option maxHeartbeats 4000000 in
set_option maxRecDepth 100000 in
theorem lw_X7_findEnds_7 {p : Program} {l : Launch} {e : Env} {s : State} {m : MethodId} {args : Array Value} {below : List Frame} {meth : Method} {c : Code} {w : GW} {sz : Nat} (hz : s.heap.size = sz) (C0 : gC p s m args meth c cX7_findEnds none 4 yX7_findEnds.cls (gA w gSL.length sz)) (Q : St → Prop) : ∀ (n : Nat) (y1 : Int) (σ : St) (H : Heap) (locs : List Loc) (ls : Array Slot), L_X7_findEnds_7 Q n y1 σ → gS w gSL σ (gA w gSL.length sz) s s.heap H locs → lv_has ls 4 [(0, .ref (gad w 80)), (1, .int (iz y1))] → W p l e rm_X7_findEnds s m args below meth c H locs 0 0 (MQ below (gQv w gSL sz Q) args s 0 0 (gA w gSL.length sz)) (F0 m 7 ls []) := by
  obtain ⟨hx, hb, hr, hml, hown, hts, hlk, hNw, hA⟩ := id C0
  have hown : s.vm.findClass RX7 = some m.cls := hown
  intro n
  induction n with
  | zero => intro y1 σ H locs ls hv; exact hv.elim
  | succ n ih =>
    intro y1 σ H locs ls hv G hl
    refine lv_iload_n hx hb dX7_findEnds_7 rfl (lv_at hl 1 rfl) ?_
    obtain ⟨i1, hv⟩ := hv
    refine g_if_lt (tgt := 101) hx hb i1 dX7_findEnds_8 (by decide) (fun c2 => ?_) (fun c2 => ?_)
    · have hv := hv.1 c2
      exact g_vret hx hb hr hlk hz G hv dX7_findEnds_101
    · have hv := hv.2 c2
      refine lv_iconst (v := iz 0) hx hb dX7_findEnds_11 rfl ?_
      refine lv_istore_n (lv' := [(2, .int (iz 0)), (0, .ref (gad w 80)), (1, .int (iz y1))]) hx hb dX7_findEnds_12 rfl hl (by decide) rfl (fun ls hl => ?_)
      obtain ⟨n_, hv⟩ := hv
      refine lw_X7_findEnds_13 (l := l) (p := p) (e := e) hz C0 Q _ y1 (fun  s15 H locs ls hv G hl => ?_) n_ _ _ _ _ _ hv G (lv_sub hl [1, 2, 0] rfl)
      refine lv_iconst (v := iz 0) hx hb dX7_findEnds_43 rfl ?_
      refine lv_istore_n (lv' := [(2, .int (iz 0)), (0, .ref (gad w 80)), (1, .int (iz y1))]) hx hb dX7_findEnds_44 rfl hl (by decide) rfl (fun ls hl => ?_)
      obtain ⟨n_, hv⟩ := hv
      refine lw_X7_findEnds_45 (l := l) (p := p) (e := e) hz C0 Q _ y1 (fun  s32 H locs ls hv G hl => ?_) n_ _ _ _ _ _ hv G (lv_sub hl [1, 2, 0] rfl)
      refine g_iinc (k := 1) (x := y1) (n := (-1)) (lv' := [(1, .int (iz (y1 + (-1)))), (0, .ref (gad w 80))]) hx hb dX7_findEnds_95 hl rfl (by decide) rfl (fun ls hl => ?_)
      refine lv_goto (tgt := 7) hx hb dX7_findEnds_98 (by decide) ?_
      exact ih _ _ _ _ _ hv G (lv_sub hl [1, 0] rfl)
set_option maxHeartbeats 4000000 in
set_option maxRecDepth 100000 in
theorem c_X7_findEnds (l : Launch) (w : GW) (σ : St) (sz : Nat) (hp : pre_X7_findEnds σ) : Met l yX7_findEnds (Cond.code yX7_findEnds cX7_findEnds 4 none :: wsL_law) rm_X7_findEnds (gPc w gSL σ sz [.ref (gad w 80)]) (gQv w gSL sz (post_X7_findEnds σ)) 0 0 (gA w gSL.length sz) := by
  have hv : V_X7_findEnds σ (post_X7_findEnds σ) := v_X7_findEnds σ hp
  refine g_met (by decide) [.ref (gad w 80)] (Nat.le_of_ble_eq_true rfl) ?_
  intro p e s m below meth c ls hz C0 hl G
  obtain ⟨hx, hb, hr, hml, hown, hts, hlk, hNw, hA⟩ := id C0
  have hown : s.vm.findClass RX7 = some m.cls := hown
  have hl : lv_has ls 4 [(0, .ref (gad w 80))] := hl
  refine lv_aload_n hx hb dX7_findEnds_0 rfl (lv_at hl 0 rfl) ?_
  refine g_getR hx hb hts hown 0 81 inlX7 G sh_80 rfl (by decide) rfl wm_108 dX7_findEnds_1 ?_
  refine lv_iconst (v := iz 0) hx hb dX7_findEnds_4 rfl ?_
  refine g_ald hx hb G sh_81 (by decide) (by decide) (by decide) dX7_findEnds_5 ?_
  refine lv_istore_n (lv' := [(1, .int (iz (σ 81 0))), (0, .ref (gad w 80))]) hx hb dX7_findEnds_6 rfl hl (by decide) rfl (fun ls hl => ?_)
  obtain ⟨n_, hv⟩ := hv
  exact lw_X7_findEnds_7 (l := l) (p := p) (e := e) hz C0 _ n_ _ _ _ _ _ hv G (lv_sub hl [1, 0] rfl)
