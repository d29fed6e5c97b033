abbrev rm_X3_mixInto : Room := ({ frames := 1, cells := 0, slots := 0, locals := 23 } : Room)
theorem hd_X3_mixInto : yX3_mixInto.cls = RX3 ∧ yX3_mixInto.cls ≠ "java/lang/invoke/MethodHandle" ∧ yX3_mixInto.cls ≠ "java/lang/invoke/VarHandle" ∧ (parseMethodDescriptor yX3_mixInto.desc).map (fun d => d.parameters.length) = some 1 := ⟨rfl, by decide +kernel, by decide +kernel, by decide +kernel⟩
set_option maxHeartbeats 4000000 in
set_option maxRecDepth 100000 in
theorem lw_X3_mixInto_13 {p : Program} {l : Launch} {e : Env} {s : State} {m : MethodId} {args : Array Value} {below : List Frame} {meth : Method} {c : Code} {w : GW} {sz : Nat} (hz : s.heap.size = sz) (C0 : gC p s m args meth c cX3_mixInto (some .long) 6 yX3_mixInto.cls (gA w gSL.length sz)) (Q : Int → St → Prop) : ∀ (n : Nat) (y3 y5 : Int) (σ : St) (H : Heap) (locs : List Loc) (ls : Array Slot), L_X3_mixInto_13 Q n y3 y5 σ → gS w gSL σ (gA w gSL.length sz) s s.heap H locs → lv_has ls 6 [(0, .ref (gad w 61)), (3, .long (lz y3)), (5, .int (iz y5))] → W p l e rm_X3_mixInto s m args below meth c H locs 0 0 (MQ below (gQl w gSL sz Q) args s 0 0 (gA w gSL.length sz)) (F0 m 13 ls []) := by
  obtain ⟨hx, hb, hr, hml, hown, hts, hlk, hNw, hA⟩ := id C0
  have hown : s.vm.findClass RX3 = some m.cls := hown
  intro n
  induction n with
  | zero => intro y3 y5 σ H locs ls hv; exact hv.elim
  | succ n ih =>
    intro y3 y5 σ H locs ls hv G hl
    refine lv_iload hx hb dX3_mixInto_13 (lv_at hl 2 rfl) ?_
    refine lv_aload_n hx hb dX3_mixInto_15 rfl (lv_at hl 0 rfl) ?_
    refine g_getI hx hb hts hown 11 inlX3 G sh_61 rfl (by decide) rfl wm_96 dX3_mixInto_16 ?_
    obtain ⟨i6, hv⟩ := hv
    obtain ⟨i7, hv⟩ := hv
    refine g_icmp_ge (tgt := 118) hx hb i6 i7 dX3_mixInto_19 (by decide) (fun c8 => ?_) (fun c8 => ?_)
    · have hv := hv.1 c8
      refine lv_lload_n hx hb dX3_mixInto_118 rfl (lv_at hl 1 rfl) ?_
      refine lv_aload_n hx hb dX3_mixInto_119 rfl (lv_at hl 0 rfl) ?_
      refine g_getI hx hb hts hown 13 inlX3 G sh_61 rfl (by decide) rfl wm_98 dX3_mixInto_120 ?_
      obtain ⟨i9, hv⟩ := hv
      refine g_i2l hx hb i9 dX3_mixInto_123 ?_
      obtain ⟨p10, hv⟩ := hv
      refine g_callNl (host := "IslandGrammar") (rest := []) hx hb hml hts hown hNw hA G [.long (lz y3), .long (lz (σ 61 13))] (c_X6_mix l w σ _ y3 (σ 61 13) p10) (List.mem_of_getElem? (i := 8) rfl) wm_721 wm_2 wm_722 hd_X6_mix ⟨rfl, rfl, Nat.le_of_ble_eq_true rfl, Nat.le_of_ble_eq_true rfl⟩ rfl hl.1 (Nat.le_of_ble_eq_true rfl) rfl dX3_mixInto_124 ⟨Nat.zero_le _, Nat.zero_le _⟩ (fun r13 s11 H locs h12 G => ?_)
      obtain ⟨er13, es11⟩ := h12
      rw [es11] at G
      have hv := hv r13 er13
      refine lv_aload_n hx hb dX3_mixInto_127 rfl (lv_at hl 0 rfl) ?_
      refine g_getI hx hb hts hown 15 inlX3 G sh_61 rfl (by decide) rfl wm_100 dX3_mixInto_128 ?_
      obtain ⟨i14, hv⟩ := hv
      refine g_i2l hx hb i14 dX3_mixInto_131 ?_
      obtain ⟨p15, hv⟩ := hv
      refine g_callNl (host := "IslandGrammar") (rest := []) hx hb hml hts hown hNw hA G [.long (lz r13), .long (lz (σ 61 15))] (c_X6_mix l w σ _ r13 (σ 61 15) p15) (List.mem_of_getElem? (i := 8) rfl) wm_721 wm_2 wm_722 hd_X6_mix ⟨rfl, rfl, Nat.le_of_ble_eq_true rfl, Nat.le_of_ble_eq_true rfl⟩ rfl hl.1 (Nat.le_of_ble_eq_true rfl) rfl dX3_mixInto_132 ⟨Nat.zero_le _, Nat.zero_le _⟩ (fun r18 s16 H locs h17 G => ?_)
      obtain ⟨er18, es16⟩ := h17
      rw [es16] at G
      have hv := hv r18 er18
      exact g_lret hx hb hr hlk hz G hv dX3_mixInto_135
    · have hv := hv.2 c8
      refine lv_lload_n hx hb dX3_mixInto_22 rfl (lv_at hl 1 rfl) ?_
      refine lv_aload_n hx hb dX3_mixInto_23 rfl (lv_at hl 0 rfl) ?_
      refine g_getR hx hb hts hown 2 62 inlX3 G sh_61 rfl (by decide) rfl wm_87 dX3_mixInto_24 ?_
      refine lv_iload hx hb dX3_mixInto_27 (lv_at hl 2 rfl) ?_
      obtain ⟨p19, hv⟩ := hv
      refine g_callVi (rest := [.long (lz y3)]) hx hb hml hts hown hNw hA G [.int (iz y5)] (c_X4_get l w σ _ 62 100 ⟨sh_62, sh_63⟩ y5 p19) sh_62 rfl wm_415 wm_134 wm_135 wm_22 wm_136 hd_X4_get ⟨rfl, rfl, Nat.le_of_ble_eq_true rfl, Nat.le_of_ble_eq_true rfl⟩ rfl hl.1 (Nat.le_of_ble_eq_true rfl) rfl dX3_mixInto_29 ⟨Nat.zero_le _, Nat.zero_le _⟩ (fun r22 s20 H locs h21 G => ?_)
      obtain ⟨er22, es20⟩ := h21
      rw [es20] at G
      have hv := hv r22 er22
      obtain ⟨i23, hv⟩ := hv
      refine g_i2l hx hb i23 dX3_mixInto_32 ?_
      obtain ⟨p24, hv⟩ := hv
      refine g_callNl (host := "IslandGrammar") (rest := []) hx hb hml hts hown hNw hA G [.long (lz y3), .long (lz r22)] (c_X6_mix l w σ _ y3 r22 p24) (List.mem_of_getElem? (i := 8) rfl) wm_721 wm_2 wm_722 hd_X6_mix ⟨rfl, rfl, Nat.le_of_ble_eq_true rfl, Nat.le_of_ble_eq_true rfl⟩ rfl hl.1 (Nat.le_of_ble_eq_true rfl) rfl dX3_mixInto_33 ⟨Nat.zero_le _, Nat.zero_le _⟩ (fun r27 s25 H locs h26 G => ?_)
      obtain ⟨er27, es25⟩ := h26
      rw [es25] at G
      have hv := hv r27 er27
      refine lv_lstore_n (lv' := [(3, .long (lz r27)), (0, .ref (gad w 61)), (5, .int (iz y5))]) hx hb dX3_mixInto_36 rfl hl (by decide) rfl (fun ls hl => ?_)
      refine lv_lload_n hx hb dX3_mixInto_37 rfl (lv_at hl 0 rfl) ?_
      refine lv_aload_n hx hb dX3_mixInto_38 rfl (lv_at hl 1 rfl) ?_
      refine g_getR hx hb hts hown 3 64 inlX3 G sh_61 rfl (by decide) rfl wm_88 dX3_mixInto_39 ?_
      refine lv_iload hx hb dX3_mixInto_42 (lv_at hl 2 rfl) ?_
      obtain ⟨p28, hv⟩ := hv
      refine g_callVi (rest := [.long (lz r27)]) hx hb hml hts hown hNw hA G [.int (iz y5)] (c_X4_get l w σ _ 64 100 ⟨sh_64, sh_65⟩ y5 p28) sh_64 rfl wm_415 wm_134 wm_135 wm_22 wm_136 hd_X4_get ⟨rfl, rfl, Nat.le_of_ble_eq_true rfl, Nat.le_of_ble_eq_true rfl⟩ rfl hl.1 (Nat.le_of_ble_eq_true rfl) rfl dX3_mixInto_44 ⟨Nat.zero_le _, Nat.zero_le _⟩ (fun r31 s29 H locs h30 G => ?_)
      obtain ⟨er31, es29⟩ := h30
      rw [es29] at G
      have hv := hv r31 er31
      obtain ⟨i32, hv⟩ := hv
      refine g_i2l hx hb i32 dX3_mixInto_47 ?_
      obtain ⟨p33, hv⟩ := hv
      refine g_callNl (host := "IslandGrammar") (rest := []) hx hb hml hts hown hNw hA G [.long (lz r27), .long (lz r31)] (c_X6_mix l w σ _ r27 r31 p33) (List.mem_of_getElem? (i := 8) rfl) wm_721 wm_2 wm_722 hd_X6_mix ⟨rfl, rfl, Nat.le_of_ble_eq_true rfl, Nat.le_of_ble_eq_true rfl⟩ rfl hl.1 (Nat.le_of_ble_eq_true rfl) rfl dX3_mixInto_48 ⟨Nat.zero_le _, Nat.zero_le _⟩ (fun r36 s34 H locs h35 G => ?_)
      obtain ⟨er36, es34⟩ := h35
      rw [es34] at G
      have hv := hv r36 er36
      refine lv_lstore_n (lv' := [(3, .long (lz r36)), (0, .ref (gad w 61)), (5, .int (iz y5))]) hx hb dX3_mixInto_51 rfl hl (by decide) rfl (fun ls hl => ?_)
      refine lv_lload_n hx hb dX3_mixInto_52 rfl (lv_at hl 0 rfl) ?_
      refine lv_aload_n hx hb dX3_mixInto_53 rfl (lv_at hl 1 rfl) ?_
      refine g_getR hx hb hts hown 4 66 inlX3 G sh_61 rfl (by decide) rfl wm_89 dX3_mixInto_54 ?_
      refine lv_iload hx hb dX3_mixInto_57 (lv_at hl 2 rfl) ?_
      obtain ⟨p37, hv⟩ := hv
      refine g_callVi (rest := [.long (lz r36)]) hx hb hml hts hown hNw hA G [.int (iz y5)] (c_X4_get l w σ _ 66 100 ⟨sh_66, sh_67⟩ y5 p37) sh_66 rfl wm_415 wm_134 wm_135 wm_22 wm_136 hd_X4_get ⟨rfl, rfl, Nat.le_of_ble_eq_true rfl, Nat.le_of_ble_eq_true rfl⟩ rfl hl.1 (Nat.le_of_ble_eq_true rfl) rfl dX3_mixInto_59 ⟨Nat.zero_le _, Nat.zero_le _⟩ (fun r40 s38 H locs h39 G => ?_)
      obtain ⟨er40, es38⟩ := h39
      rw [es38] at G
      have hv := hv r40 er40
      obtain ⟨i41, hv⟩ := hv
      refine g_i2l hx hb i41 dX3_mixInto_62 ?_
      obtain ⟨p42, hv⟩ := hv
      refine g_callNl (host := "IslandGrammar") (rest := []) hx hb hml hts hown hNw hA G [.long (lz r36), .long (lz r40)] (c_X6_mix l w σ _ r36 r40 p42) (List.mem_of_getElem? (i := 8) rfl) wm_721 wm_2 wm_722 hd_X6_mix ⟨rfl, rfl, Nat.le_of_ble_eq_true rfl, Nat.le_of_ble_eq_true rfl⟩ rfl hl.1 (Nat.le_of_ble_eq_true rfl) rfl dX3_mixInto_63 ⟨Nat.zero_le _, Nat.zero_le _⟩ (fun r45 s43 H locs h44 G => ?_)
      obtain ⟨er45, es43⟩ := h44
      rw [es43] at G
      have hv := hv r45 er45
      refine lv_lstore_n (lv' := [(3, .long (lz r45)), (0, .ref (gad w 61)), (5, .int (iz y5))]) hx hb dX3_mixInto_66 rfl hl (by decide) rfl (fun ls hl => ?_)
      refine lv_lload_n hx hb dX3_mixInto_67 rfl (lv_at hl 0 rfl) ?_
      refine lv_aload_n hx hb dX3_mixInto_68 rfl (lv_at hl 1 rfl) ?_
      refine g_getR hx hb hts hown 5 68 inlX3 G sh_61 rfl (by decide) rfl wm_90 dX3_mixInto_69 ?_
      refine lv_iload hx hb dX3_mixInto_72 (lv_at hl 2 rfl) ?_
      obtain ⟨p46, hv⟩ := hv
      refine g_callVi (rest := [.long (lz r45)]) hx hb hml hts hown hNw hA G [.int (iz y5)] (c_X4_get l w σ _ 68 100 ⟨sh_68, sh_69⟩ y5 p46) sh_68 rfl wm_415 wm_134 wm_135 wm_22 wm_136 hd_X4_get ⟨rfl, rfl, Nat.le_of_ble_eq_true rfl, Nat.le_of_ble_eq_true rfl⟩ rfl hl.1 (Nat.le_of_ble_eq_true rfl) rfl dX3_mixInto_74 ⟨Nat.zero_le _, Nat.zero_le _⟩ (fun r49 s47 H locs h48 G => ?_)
      obtain ⟨er49, es47⟩ := h48
      rw [es47] at G
      have hv := hv r49 er49
      obtain ⟨i50, hv⟩ := hv
      refine g_i2l hx hb i50 dX3_mixInto_77 ?_
      obtain ⟨p51, hv⟩ := hv
      refine g_callNl (host := "IslandGrammar") (rest := []) hx hb hml hts hown hNw hA G [.long (lz r45), .long (lz r49)] (c_X6_mix l w σ _ r45 r49 p51) (List.mem_of_getElem? (i := 8) rfl) wm_721 wm_2 wm_722 hd_X6_mix ⟨rfl, rfl, Nat.le_of_ble_eq_true rfl, Nat.le_of_ble_eq_true rfl⟩ rfl hl.1 (Nat.le_of_ble_eq_true rfl) rfl dX3_mixInto_78 ⟨Nat.zero_le _, Nat.zero_le _⟩ (fun r54 s52 H locs h53 G => ?_)
      obtain ⟨er54, es52⟩ := h53
      rw [es52] at G
      have hv := hv r54 er54
      refine lv_lstore_n (lv' := [(3, .long (lz r54)), (0, .ref (gad w 61)), (5, .int (iz y5))]) hx hb dX3_mixInto_81 rfl hl (by decide) rfl (fun ls hl => ?_)
      refine lv_lload_n hx hb dX3_mixInto_82 rfl (lv_at hl 0 rfl) ?_
      refine lv_aload_n hx hb dX3_mixInto_83 rfl (lv_at hl 1 rfl) ?_
      refine g_getR hx hb hts hown 7 72 inlX3 G sh_61 rfl (by decide) rfl wm_92 dX3_mixInto_84 ?_
      refine lv_iload hx hb dX3_mixInto_87 (lv_at hl 2 rfl) ?_
      obtain ⟨p55, hv⟩ := hv
      refine g_callVi (rest := [.long (lz r54)]) hx hb hml hts hown hNw hA G [.int (iz y5)] (c_X4_get l w σ _ 72 100 ⟨sh_72, sh_73⟩ y5 p55) sh_72 rfl wm_415 wm_134 wm_135 wm_22 wm_136 hd_X4_get ⟨rfl, rfl, Nat.le_of_ble_eq_true rfl, Nat.le_of_ble_eq_true rfl⟩ rfl hl.1 (Nat.le_of_ble_eq_true rfl) rfl dX3_mixInto_89 ⟨Nat.zero_le _, Nat.zero_le _⟩ (fun r58 s56 H locs h57 G => ?_)
      obtain ⟨er58, es56⟩ := h57
      rw [es56] at G
      have hv := hv r58 er58
      obtain ⟨i59, hv⟩ := hv
      refine g_i2l hx hb i59 dX3_mixInto_92 ?_
      obtain ⟨p60, hv⟩ := hv
      refine g_callNl (host := "IslandGrammar") (rest := []) hx hb hml hts hown hNw hA G [.long (lz r54), .long (lz r58)] (c_X6_mix l w σ _ r54 r58 p60) (List.mem_of_getElem? (i := 8) rfl) wm_721 wm_2 wm_722 hd_X6_mix ⟨rfl, rfl, Nat.le_of_ble_eq_true rfl, Nat.le_of_ble_eq_true rfl⟩ rfl hl.1 (Nat.le_of_ble_eq_true rfl) rfl dX3_mixInto_93 ⟨Nat.zero_le _, Nat.zero_le _⟩ (fun r63 s61 H locs h62 G => ?_)
      obtain ⟨er63, es61⟩ := h62
      rw [es61] at G
      have hv := hv r63 er63
      refine lv_lstore_n (lv' := [(3, .long (lz r63)), (0, .ref (gad w 61)), (5, .int (iz y5))]) hx hb dX3_mixInto_96 rfl hl (by decide) rfl (fun ls hl => ?_)
      refine lv_lload_n hx hb dX3_mixInto_97 rfl (lv_at hl 0 rfl) ?_
      refine lv_aload_n hx hb dX3_mixInto_98 rfl (lv_at hl 1 rfl) ?_
      refine g_getR hx hb hts hown 8 74 inlX3 G sh_61 rfl (by decide) rfl wm_93 dX3_mixInto_99 ?_
      refine lv_iload hx hb dX3_mixInto_102 (lv_at hl 2 rfl) ?_
      obtain ⟨p64, hv⟩ := hv
      refine g_callVi (rest := [.long (lz r63)]) hx hb hml hts hown hNw hA G [.int (iz y5)] (c_X4_get l w σ _ 74 100 ⟨sh_74, sh_75⟩ y5 p64) sh_74 rfl wm_415 wm_134 wm_135 wm_22 wm_136 hd_X4_get ⟨rfl, rfl, Nat.le_of_ble_eq_true rfl, Nat.le_of_ble_eq_true rfl⟩ rfl hl.1 (Nat.le_of_ble_eq_true rfl) rfl dX3_mixInto_104 ⟨Nat.zero_le _, Nat.zero_le _⟩ (fun r67 s65 H locs h66 G => ?_)
      obtain ⟨er67, es65⟩ := h66
      rw [es65] at G
      have hv := hv r67 er67
      obtain ⟨i68, hv⟩ := hv
      refine g_i2l hx hb i68 dX3_mixInto_107 ?_
      obtain ⟨p69, hv⟩ := hv
      refine g_callNl (host := "IslandGrammar") (rest := []) hx hb hml hts hown hNw hA G [.long (lz r63), .long (lz r67)] (c_X6_mix l w σ _ r63 r67 p69) (List.mem_of_getElem? (i := 8) rfl) wm_721 wm_2 wm_722 hd_X6_mix ⟨rfl, rfl, Nat.le_of_ble_eq_true rfl, Nat.le_of_ble_eq_true rfl⟩ rfl hl.1 (Nat.le_of_ble_eq_true rfl) rfl dX3_mixInto_108 ⟨Nat.zero_le _, Nat.zero_le _⟩ (fun r72 s70 H locs h71 G => ?_)
      obtain ⟨er72, es70⟩ := h71
      rw [es70] at G
      have hv := hv r72 er72
      refine lv_lstore_n (lv' := [(3, .long (lz r72)), (0, .ref (gad w 61)), (5, .int (iz y5))]) hx hb dX3_mixInto_111 rfl hl (by decide) rfl (fun ls hl => ?_)
      refine g_iinc (k := 2) (x := y5) (n := 1) (lv' := [(5, .int (iz (y5 + 1))), (3, .long (lz r72)), (0, .ref (gad w 61))]) hx hb dX3_mixInto_112 hl rfl (by decide) rfl (fun ls hl => ?_)
      refine lv_goto (tgt := 13) hx hb dX3_mixInto_115 (by decide) ?_
      exact ih _ _ _ _ _ _ hv G (lv_sub hl [2, 1, 0] rfl)
set_option maxHeartbeats 4000000 in
set_option maxRecDepth 100000 in
theorem c_X3_mixInto (l : Launch) (w : GW) (σ : St) (sz : Nat) (x1 : Int) (hp : pre_X3_mixInto x1 σ) : Met l yX3_mixInto (Cond.code yX3_mixInto cX3_mixInto 6 (some .long) :: wsL_law) rm_X3_mixInto (gPc w gSL σ sz [.ref (gad w 61), .long (lz x1)]) (gQl w gSL sz (post_X3_mixInto x1 σ)) 0 0 (gA w gSL.length sz) := by
  have hv : V_X3_mixInto x1 σ (post_X3_mixInto x1 σ) := v_X3_mixInto x1 σ hp
  refine g_met (by decide) [.ref (gad w 61), .long (lz x1)] (Nat.le_of_ble_eq_true rfl) ?_
  intro p e s m below meth c ls hz C0 hl G
  obtain ⟨hx, hb, hr, hml, hown, hts, hlk, hNw, hA⟩ := id C0
  have hown : s.vm.findClass RX3 = some m.cls := hown
  have hl : lv_has ls 6 [(0, .ref (gad w 61)), (1, .long (lz x1))] := hl
  refine lv_lload_n hx hb dX3_mixInto_0 rfl (lv_at hl 1 rfl) ?_
  refine lv_aload_n hx hb dX3_mixInto_1 rfl (lv_at hl 0 rfl) ?_
  refine g_getI hx hb hts hown 11 inlX3 G sh_61 rfl (by decide) rfl wm_96 dX3_mixInto_2 ?_
  obtain ⟨i1, hv⟩ := hv
  refine g_i2l hx hb i1 dX3_mixInto_5 ?_
  obtain ⟨p2, hv⟩ := hv
  refine g_callNl (host := "IslandGrammar") (rest := []) hx hb hml hts hown hNw hA G [.long (lz x1), .long (lz (σ 61 11))] (c_X6_mix l w σ _ x1 (σ 61 11) p2) (List.mem_of_getElem? (i := 8) rfl) wm_721 wm_2 wm_722 hd_X6_mix ⟨rfl, rfl, Nat.le_of_ble_eq_true rfl, Nat.le_of_ble_eq_true rfl⟩ rfl hl.1 (Nat.le_of_ble_eq_true rfl) rfl dX3_mixInto_6 ⟨Nat.zero_le _, Nat.zero_le _⟩ (fun r5 s3 H locs h4 G => ?_)
  obtain ⟨er5, es3⟩ := h4
  rw [es3] at G
  have hv := hv r5 er5
  refine lv_lstore_n (lv' := [(3, .long (lz r5)), (0, .ref (gad w 61)), (1, .long (lz x1))]) hx hb dX3_mixInto_9 rfl hl (by decide) rfl (fun ls hl => ?_)
  refine lv_iconst (v := iz 0) hx hb dX3_mixInto_10 rfl ?_
  refine lv_istore (lv' := [(5, .int (iz 0)), (3, .long (lz r5)), (0, .ref (gad w 61)), (1, .long (lz x1))]) hx hb dX3_mixInto_11 hl (by decide) rfl (fun ls hl => ?_)
  obtain ⟨n_, hv⟩ := hv
  exact lw_X3_mixInto_13 (l := l) (p := p) (e := e) hz C0 _ n_ _ _ _ _ _ _ hv G (lv_sub hl [2, 1, 0] rfl)
abbrev rm_X6_digest : Room := ({ frames := 6, cells := 0, slots := 0, locals := 144 } : Room)
theorem hd_X6_digest : yX6_digest.cls = RX6 ∧ yX6_digest.cls ≠ "java/lang/invoke/MethodHandle" ∧ yX6_digest.cls ≠ "java/lang/invoke/VarHandle" ∧ (parseMethodDescriptor yX6_digest.desc).map (fun d => d.parameters.length) = some 0 := ⟨rfl, by decide +kernel, by decide +kernel, by decide +kernel⟩
set_option maxHeartbeats 4000000 in
set_option maxRecDepth 100000 in
theorem c_X6_digest (l : Launch) (w : GW) (σ : St) (sz : Nat) (hp : pre_X6_digest σ) : Met l yX6_digest (Cond.code yX6_digest cX6_digest 3 (some .long) :: wsL_law) rm_X6_digest (gPc w gSL σ sz [.ref (gad w 0)]) (gQl w gSL sz (post_X6_digest σ)) 0 0 (gA w gSL.length sz) := by
  have hv : V_X6_digest σ (post_X6_digest σ) := v_X6_digest σ hp
  refine g_met (by decide) [.ref (gad w 0)] (Nat.le_of_ble_eq_true rfl) ?_
  intro p e s m below meth c ls hz C0 hl G
  obtain ⟨hx, hb, hr, hml, hown, hts, hlk, hNw, hA⟩ := id C0
  have hown : s.vm.findClass RX6 = some m.cls := hown
  have hl : lv_has ls 3 [(0, .ref (gad w 0))] := hl
  refine lv_aload_n hx hb dX6_digest_0 rfl (lv_at hl 0 rfl) ?_
  obtain ⟨p1, hv⟩ := hv
  refine g_callVv (rest := []) hx hb hml hts hown hNw hA G [] (c_X6_refresh l w σ _ p1) sh_0 rfl wm_335 wm_336 wm_337 wm_2 wm_338 hd_X6_refresh ⟨rfl, rfl, Nat.le_of_ble_eq_true rfl, Nat.le_of_ble_eq_true rfl⟩ rfl hl.1 (Nat.le_of_ble_eq_true rfl) rfl dX6_digest_1 ⟨Nat.zero_le _, Nat.zero_le _⟩ (fun s2 H locs h3 G => ?_)
  have hv := hv s2 h3
  refine lv_aload_n hx hb dX6_digest_4 rfl (lv_at hl 0 rfl) ?_
  refine g_getR hx hb hts hown 3 50 inlX6 G sh_0 rfl (by decide) rfl wm_24 dX6_digest_5 ?_
  refine lv_ldc2 (v := lz 17305) hx hb hown (hts _ wm_715) dX6_digest_8 ?_
  refine lv_iconst (v := iz 0) hx hb dX6_digest_11 rfl ?_
  refine lv_iconst (v := iz 3) hx hb dX6_digest_12 rfl ?_
  obtain ⟨p4, hv⟩ := hv
  refine g_callVl (rest := []) hx hb hml hts hown hNw hA G [.long (lz 17305), .int (iz 0), .int (iz 3)] (c_X4_mixInto l w s2 _ 50 3 ⟨sh_50, sh_51⟩ 17305 0 3 p4) sh_50 rfl wm_716 wm_717 wm_718 wm_22 wm_719 hd_X4_mixInto ⟨rfl, rfl, Nat.le_of_ble_eq_true rfl, Nat.le_of_ble_eq_true rfl⟩ rfl hl.1 (Nat.le_of_ble_eq_true rfl) rfl dX6_digest_13 ⟨Nat.zero_le _, Nat.zero_le _⟩ (fun r7 s5 H locs h6 G => ?_)
  obtain ⟨er7, es5⟩ := h6
  rw [es5] at G
  have hv := hv r7 er7
  refine lv_lstore_n (lv' := [(1, .long (lz r7)), (0, .ref (gad w 0))]) hx hb dX6_digest_16 rfl hl (by decide) rfl (fun ls hl => ?_)
  refine lv_lload_n hx hb dX6_digest_17 rfl (lv_at hl 0 rfl) ?_
  refine lv_aload_n hx hb dX6_digest_18 rfl (lv_at hl 1 rfl) ?_
  refine g_getI hx hb hts hown 6 inlX6 G sh_0 rfl (by decide) rfl wm_33 dX6_digest_19 ?_
  obtain ⟨i8, hv⟩ := hv
  refine g_i2l hx hb i8 dX6_digest_22 ?_
  obtain ⟨p9, hv⟩ := hv
  refine g_callSl (rest := []) hx hb hml hts hown hNw hA G [.long (lz r7), .long (lz (s2 0 6))] (c_X6_mix l w s2 _ r7 (s2 0 6) p9) wm_724 wm_721 wm_2 wm_722 hd_X6_mix ⟨rfl, rfl, Nat.le_of_ble_eq_true rfl, Nat.le_of_ble_eq_true rfl⟩ rfl hl.1 (Nat.le_of_ble_eq_true rfl) rfl dX6_digest_23 ⟨Nat.zero_le _, Nat.zero_le _⟩ (fun r12 s10 H locs h11 G => ?_)
  obtain ⟨er12, es10⟩ := h11
  rw [es10] at G
  have hv := hv r12 er12
  refine lv_lstore_n (lv' := [(1, .long (lz r12)), (0, .ref (gad w 0))]) hx hb dX6_digest_26 rfl hl (by decide) rfl (fun ls hl => ?_)
  refine lv_lload_n hx hb dX6_digest_27 rfl (lv_at hl 0 rfl) ?_
  refine lv_aload_n hx hb dX6_digest_28 rfl (lv_at hl 1 rfl) ?_
  refine g_getR hx hb hts hown 1 10 inlX6 G sh_0 rfl (by decide) rfl wm_19 dX6_digest_29 ?_
  obtain ⟨p13, hv⟩ := hv
  refine g_callVi (rest := [.long (lz r12)]) hx hb hml hts hown hNw hA G [] (c_X1_savedCount l w s2 _ p13) sh_10 rfl wm_690 wm_691 wm_692 wm_18 wm_693 hd_X1_savedCount ⟨rfl, rfl, Nat.le_of_ble_eq_true rfl, Nat.le_of_ble_eq_true rfl⟩ rfl hl.1 (Nat.le_of_ble_eq_true rfl) rfl dX6_digest_32 ⟨Nat.zero_le _, Nat.zero_le _⟩ (fun r16 s14 H locs h15 G => ?_)
  obtain ⟨er16, es14⟩ := h15
  rw [es14] at G
  have hv := hv r16 er16
  obtain ⟨i17, hv⟩ := hv
  refine g_i2l hx hb i17 dX6_digest_35 ?_
  obtain ⟨p18, hv⟩ := hv
  refine g_callSl (rest := []) hx hb hml hts hown hNw hA G [.long (lz r12), .long (lz r16)] (c_X6_mix l w s2 _ r12 r16 p18) wm_724 wm_721 wm_2 wm_722 hd_X6_mix ⟨rfl, rfl, Nat.le_of_ble_eq_true rfl, Nat.le_of_ble_eq_true rfl⟩ rfl hl.1 (Nat.le_of_ble_eq_true rfl) rfl dX6_digest_36 ⟨Nat.zero_le _, Nat.zero_le _⟩ (fun r21 s19 H locs h20 G => ?_)
  obtain ⟨er21, es19⟩ := h20
  rw [es19] at G
  have hv := hv r21 er21
  refine lv_lstore_n (lv' := [(1, .long (lz r21)), (0, .ref (gad w 0))]) hx hb dX6_digest_39 rfl hl (by decide) rfl (fun ls hl => ?_)
  refine lv_aload_n hx hb dX6_digest_40 rfl (lv_at hl 1 rfl) ?_
  refine g_getR hx hb hts hown 0 1 inlX6 G sh_0 rfl (by decide) rfl wm_15 dX6_digest_41 ?_
  refine lv_lload_n hx hb dX6_digest_44 rfl (lv_at hl 0 rfl) ?_
  obtain ⟨p22, hv⟩ := hv
  refine g_callVl (rest := []) hx hb hml hts hown hNw hA G [.long (lz r21)] (c_X5_mixInto l w s2 _ r21 p22) sh_1 rfl wm_725 wm_726 wm_727 wm_14 wm_728 hd_X5_mixInto ⟨rfl, rfl, Nat.le_of_ble_eq_true rfl, Nat.le_of_ble_eq_true rfl⟩ rfl hl.1 (Nat.le_of_ble_eq_true rfl) rfl dX6_digest_45 ⟨Nat.zero_le _, Nat.zero_le _⟩ (fun r25 s23 H locs h24 G => ?_)
  obtain ⟨er25, es23⟩ := h24
  rw [es23] at G
  have hv := hv r25 er25
  refine lv_lstore_n (lv' := [(1, .long (lz r25)), (0, .ref (gad w 0))]) hx hb dX6_digest_48 rfl hl (by decide) rfl (fun ls hl => ?_)
  refine lv_aload_n hx hb dX6_digest_49 rfl (lv_at hl 1 rfl) ?_
  refine g_getR hx hb hts hown 5 61 inlX6 G sh_0 rfl (by decide) rfl wm_32 dX6_digest_50 ?_
  refine lv_lload_n hx hb dX6_digest_53 rfl (lv_at hl 0 rfl) ?_
  obtain ⟨p26, hv⟩ := hv
  refine g_callVl (rest := []) hx hb hml hts hown hNw hA G [.long (lz r25)] (c_X3_mixInto l w s2 _ r25 p26) sh_61 rfl wm_732 wm_733 wm_734 wm_31 wm_735 hd_X3_mixInto ⟨rfl, rfl, Nat.le_of_ble_eq_true rfl, Nat.le_of_ble_eq_true rfl⟩ rfl hl.1 (Nat.le_of_ble_eq_true rfl) rfl dX6_digest_54 ⟨Nat.zero_le _, Nat.zero_le _⟩ (fun r29 s27 H locs h28 G => ?_)
  obtain ⟨er29, es27⟩ := h28
  rw [es27] at G
  have hv := hv r29 er29
  exact g_lret hx hb hr hlk hz G hv dX6_digest_57
abbrev rm_X7_in : Room := ({ frames := 0, cells := 0, slots := 0, locals := 0 } : Room)
theorem hd_X7_in : yX7_in.cls ≠ "java/lang/invoke/MethodHandle" ∧ yX7_in.cls ≠ "java/lang/invoke/VarHandle" ∧ (parseMethodDescriptor yX7_in.desc).map (fun d => d.parameters.length) = some 3 := ⟨by decide +kernel, by decide +kernel, by decide +kernel⟩
set_option maxHeartbeats 4000000 in
set_option maxRecDepth 100000 in
theorem c_X7_in (l : Launch) (w : GW) (σ : St) (sz : Nat) (x0 x1 x2 : Int) (hp : pre_X7_in x0 x1 x2 σ) : Met l yX7_in (Cond.code yX7_in cX7_in 3 (some .boolean) :: wsL_law) rm_X7_in (gPc w gSL σ sz [.int (iz x0), .int (iz x1), .int (iz x2)]) (gQi w gSL sz (post_X7_in x0 x1 x2 σ)) 0 0 (gA w gSL.length sz) := by
  have hv : V_X7_in x0 x1 x2 σ (post_X7_in x0 x1 x2 σ) := v_X7_in x0 x1 x2 σ hp
  refine g_met (by decide) [.int (iz x0), .int (iz x1), .int (iz x2)] (Nat.le_of_ble_eq_true rfl) ?_
  intro p e s m below meth c ls hz C0 hl G
  obtain ⟨hx, hb, hr, hml, hown, hts, hlk, hNw, hA⟩ := id C0
  have hown : s.vm.findClass RX7 = some m.cls := hown
  have hl : lv_has ls 3 [(0, .int (iz x0)), (1, .int (iz x1)), (2, .int (iz x2))] := hl
  refine lv_iload_n hx hb dX7_in_0 rfl (lv_at hl 0 rfl) ?_
  refine lv_iload_n hx hb dX7_in_1 rfl (lv_at hl 1 rfl) ?_
  obtain ⟨i1, hv⟩ := hv
  obtain ⟨i2, hv⟩ := hv
  refine g_icmp_lt (tgt := 14) hx hb i1 i2 dX7_in_2 (by decide) (fun c3 => ?_) (fun c3 => ?_)
  · have hv := hv.1 c3
    refine lv_iconst (v := iz 0) hx hb dX7_in_14 rfl ?_
    exact g_zret hx hb hr hlk hz G (Or.inl rfl) hv dX7_in_15
  · have hv := hv.2 c3
    refine lv_iload_n hx hb dX7_in_5 rfl (lv_at hl 0 rfl) ?_
    refine lv_iload_n hx hb dX7_in_6 rfl (lv_at hl 2 rfl) ?_
    obtain ⟨i4, hv⟩ := hv
    refine g_icmp_gt (tgt := 14) hx hb i1 i4 dX7_in_7 (by decide) (fun c5 => ?_) (fun c5 => ?_)
    · have hv := hv.1 c5
      refine lv_iconst (v := iz 0) hx hb dX7_in_14 rfl ?_
      exact g_zret hx hb hr hlk hz G (Or.inl rfl) hv dX7_in_15
    · have hv := hv.2 c5
      refine lv_iconst (v := iz 1) hx hb dX7_in_10 rfl ?_
      refine lv_goto (tgt := 15) hx hb dX7_in_11 (by decide) ?_
      exact g_zret hx hb hr hlk hz G (Or.inr rfl) hv dX7_in_15
abbrev rm_X7_fail : Room := ({ frames := 0, cells := 0, slots := 0, locals := 0 } : Room)
theorem hd_X7_fail : yX7_fail.cls = RX7 ∧ yX7_fail.cls ≠ "java/lang/invoke/MethodHandle" ∧ yX7_fail.cls ≠ "java/lang/invoke/VarHandle" ∧ (parseMethodDescriptor yX7_fail.desc).map (fun d => d.parameters.length) = some 1 := ⟨rfl, by decide +kernel, by decide +kernel, by decide +kernel⟩
set_option maxHeartbeats 4000000 in
set_option maxRecDepth 100000 in
theorem c_X7_fail (l : Launch) (w : GW) (σ : St) (sz : Nat) (x1 : Int) (hp : pre_X7_fail x1 σ) : Met l yX7_fail (Cond.code yX7_fail cX7_fail 2 (some .int) :: wsL_law) rm_X7_fail (gPc w gSL σ sz [.ref (gad w 80), .int (iz x1)]) (gQi w gSL sz (post_X7_fail x1 σ)) 0 0 (gA w gSL.length sz) := by
  have hv : V_X7_fail x1 σ (post_X7_fail x1 σ) := v_X7_fail x1 σ hp
  refine g_met (by decide) [.ref (gad w 80), .int (iz x1)] (Nat.le_of_ble_eq_true rfl) ?_
  intro p e s m below meth c ls hz C0 hl G
  obtain ⟨hx, hb, hr, hml, hown, hts, hlk, hNw, hA⟩ := id C0
  have hown : s.vm.findClass RX7 = some m.cls := hown
  have hl : lv_has ls 2 [(0, .ref (gad w 80)), (1, .int (iz x1))] := hl
  refine lv_aload_n hx hb dX7_fail_0 rfl (lv_at hl 0 rfl) ?_
  refine g_getR hx hb hts hown 5 84 inlX7 G sh_80 rfl (by decide) rfl wm_111 dX7_fail_1 ?_
  refine lv_bipush (v := iz (-2)) hx hb dX7_fail_4 (by decide +kernel) ?_
  refine lv_iload_n hx hb dX7_fail_6 rfl (lv_at hl 1 rfl) ?_
  refine g_isub hx hb dX7_fail_7 ?_
  refine lv_dup2_11 hx hb dX7_fail_8 rfl rfl ?_
  obtain ⟨o1, hv⟩ := hv
  refine g_ald hx hb G sh_84 o1.1 o1.2 (by decide) dX7_fail_9 ?_
  refine lv_iconst (v := iz 1) hx hb dX7_fail_10 rfl ?_
  refine g_iadd hx hb dX7_fail_11 ?_
  obtain ⟨o2, hv⟩ := hv
  refine g_ast hx hb G sh_84 o2.1 o2.2 (by decide) dX7_fail_12 (fun s3 es3 H locs G => ?_)
  have hv := hv s3 es3
  refine lv_iload_n hx hb dX7_fail_13 rfl (lv_at hl 1 rfl) ?_
  exact g_iret hx hb hr hlk hz G hv dX7_fail_14
abbrev rm_X7_save : Room := ({ frames := 0, cells := 0, slots := 0, locals := 0 } : Room)
theorem hd_X7_save : yX7_save.cls = RX7 ∧ yX7_save.cls ≠ "java/lang/invoke/MethodHandle" ∧ yX7_save.cls ≠ "java/lang/invoke/VarHandle" ∧ (parseMethodDescriptor yX7_save.desc).map (fun d => d.parameters.length) = some 0 := ⟨rfl, by decide +kernel, by decide +kernel, by decide +kernel⟩
set_option maxHeartbeats 4000000 in
set_option maxRecDepth 100000 in
theorem lw_X7_save_51 {p : Program} {l : Launch} {e : Env} {s : State} {m : MethodId} {args : Array Value} {below : List Frame} {meth : Method} {c : Code} {w : GW} {sz : Nat} (hz : s.heap.size = sz) (C0 : gC p s m args meth c cX7_save none 2 yX7_save.cls (gA w gSL.length sz)) (Q : St → Prop) : ∀ (n : Nat) (y1 : Int) (σ : St) (H : Heap) (locs : List Loc) (ls : Array Slot), L_X7_save_51 Q n y1 σ → gS w gSL σ (gA w gSL.length sz) s s.heap H locs → lv_has ls 2 [(0, .ref (gad w 80)), (1, .int (iz y1))] → W p l e rm_X7_save s m args below meth c H locs 0 0 (MQ below (gQv w gSL sz Q) args s 0 0 (gA w gSL.length sz)) (F0 m 51 ls []) := by
  obtain ⟨hx, hb, hr, hml, hown, hts, hlk, hNw, hA⟩ := id C0
  have hown : s.vm.findClass RX7 = some m.cls := hown
  intro n
  induction n with
  | zero => intro y1 σ H locs ls hv; exact hv.elim
  | succ n ih =>
    intro y1 σ H locs ls hv G hl
    refine lv_iload_n hx hb dX7_save_51 rfl (lv_at hl 1 rfl) ?_
    refine lv_sipush (v := iz 161) hx hb dX7_save_52 (by decide +kernel) ?_
    obtain ⟨i3, hv⟩ := hv
    refine g_icmp_ge (tgt := 85) hx hb i3 ⟨by decide, by decide⟩ dX7_save_55 (by decide) (fun c4 => ?_) (fun c4 => ?_)
    · have hv := hv.1 c4
      refine lv_aload_n hx hb dX7_save_85 rfl (lv_at hl 0 rfl) ?_
      refine lv_dup hx hb dX7_save_86 rfl ?_
      refine g_getI hx hb hts hown 2 inlX7 G sh_80 rfl (by decide) rfl wm_190 dX7_save_87 ?_
      refine lv_iconst (v := iz 1) hx hb dX7_save_90 rfl ?_
      refine g_iadd hx hb dX7_save_91 ?_
      refine g_putI hx hb hts hown 2 inlX7 tyX7 tyX7_ok nmX7 G sh_80 rfl (by decide) rfl wm_190 rfl rfl rfl dX7_save_92 (fun s5 es5 H locs G => ?_)
      have hv := hv s5 es5
      exact g_vret hx hb hr hlk hz G hv dX7_save_95
    · have hv := hv.2 c4
      refine lv_aload_n hx hb dX7_save_58 rfl (lv_at hl 0 rfl) ?_
      refine g_getR hx hb hts hown 1 82 inlX7 G sh_80 rfl (by decide) rfl wm_109 dX7_save_59 ?_
      refine lv_sipush (v := iz 161) hx hb dX7_save_62 (by decide +kernel) ?_
      refine lv_aload_n hx hb dX7_save_65 rfl (lv_at hl 0 rfl) ?_
      refine g_getI hx hb hts hown 2 inlX7 G sh_80 rfl (by decide) rfl wm_190 dX7_save_66 ?_
      refine g_imul hx hb dX7_save_69 ?_
      refine lv_iload_n hx hb dX7_save_70 rfl (lv_at hl 1 rfl) ?_
      refine g_iadd hx hb dX7_save_71 ?_
      refine lv_aload_n hx hb dX7_save_72 rfl (lv_at hl 0 rfl) ?_
      refine g_getR hx hb hts hown 0 81 inlX7 G sh_80 rfl (by decide) rfl wm_108 dX7_save_73 ?_
      refine lv_iload_n hx hb dX7_save_76 rfl (lv_at hl 1 rfl) ?_
      obtain ⟨o6, hv⟩ := hv
      refine g_ald hx hb G sh_81 o6.1 o6.2 (by decide) dX7_save_77 ?_
      obtain ⟨o7, hv⟩ := hv
      refine g_ast hx hb G sh_82 o7.1 o7.2 (by decide) dX7_save_78 (fun s8 es8 H locs G => ?_)
      have hv := hv s8 es8
      refine g_iinc (k := 1) (x := y1) (n := 1) (lv' := [(1, .int (iz (y1 + 1))), (0, .ref (gad w 80))]) hx hb dX7_save_79 hl rfl (by decide) rfl (fun ls hl => ?_)
      refine lv_goto (tgt := 51) hx hb dX7_save_82 (by decide) ?_
      exact ih _ _ _ _ _ hv G (lv_sub hl [1, 0] rfl)
set_option maxHeartbeats 4000000 in
set_option maxRecDepth 100000 in
theorem lw_X7_save_10 {p : Program} {l : Launch} {e : Env} {s : State} {m : MethodId} {args : Array Value} {below : List Frame} {meth : Method} {c : Code} {w : GW} {sz : Nat} (hz : s.heap.size = sz) (C0 : gC p s m args meth c cX7_save none 2 yX7_save.cls (gA w gSL.length sz)) (Q : St → Prop) : ∀ (n : Nat) (y1 : Int) (σ : St) (H : Heap) (locs : List Loc) (ls : Array Slot), L_X7_save_10 Q n y1 σ → gS w gSL σ (gA w gSL.length sz) s s.heap H locs → lv_has ls 2 [(0, .ref (gad w 80)), (1, .int (iz y1))] → W p l e rm_X7_save s m args below meth c H locs 0 0 (MQ below (gQv w gSL sz Q) args s 0 0 (gA w gSL.length sz)) (F0 m 10 ls []) := by
  obtain ⟨hx, hb, hr, hml, hown, hts, hlk, hNw, hA⟩ := id C0
  have hown : s.vm.findClass RX7 = some m.cls := hown
  intro n
  induction n with
  | zero => intro y1 σ H locs ls hv; exact hv.elim
  | succ n ih =>
    intro y1 σ H locs ls hv G hl
    refine lv_iload_n hx hb dX7_save_10 rfl (lv_at hl 1 rfl) ?_
    refine lv_sipush (v := iz 483) hx hb dX7_save_11 (by decide +kernel) ?_
    obtain ⟨i9, hv⟩ := hv
    refine g_icmp_ge (tgt := 39) hx hb i9 ⟨by decide, by decide⟩ dX7_save_14 (by decide) (fun c10 => ?_) (fun c10 => ?_)
    · have hv := hv.1 c10
      refine lv_aload_n hx hb dX7_save_39 rfl (lv_at hl 0 rfl) ?_
      refine lv_dup hx hb dX7_save_40 rfl ?_
      refine g_getI hx hb hts hown 2 inlX7 G sh_80 rfl (by decide) rfl wm_190 dX7_save_41 ?_
      refine lv_iconst (v := iz 1) hx hb dX7_save_44 rfl ?_
      refine g_isub hx hb dX7_save_45 ?_
      refine g_putI hx hb hts hown 2 inlX7 tyX7 tyX7_ok nmX7 G sh_80 rfl (by decide) rfl wm_190 rfl rfl rfl dX7_save_46 (fun s11 es11 H locs G => ?_)
      have hv := hv s11 es11
      refine lv_iconst (v := iz 0) hx hb dX7_save_49 rfl ?_
      refine lv_istore_n (lv' := [(1, .int (iz 0)), (0, .ref (gad w 80))]) hx hb dX7_save_50 rfl hl (by decide) rfl (fun ls hl => ?_)
      obtain ⟨n_, hv⟩ := hv
      exact lw_X7_save_51 (l := l) (p := p) (e := e) hz C0 _ n_ _ _ _ _ _ hv G (lv_sub hl [1, 0] rfl)
    · have hv := hv.2 c10
      refine lv_aload_n hx hb dX7_save_17 rfl (lv_at hl 0 rfl) ?_
      refine g_getR hx hb hts hown 1 82 inlX7 G sh_80 rfl (by decide) rfl wm_109 dX7_save_18 ?_
      refine lv_iload_n hx hb dX7_save_21 rfl (lv_at hl 1 rfl) ?_
      refine lv_aload_n hx hb dX7_save_22 rfl (lv_at hl 0 rfl) ?_
      refine g_getR hx hb hts hown 1 82 inlX7 G sh_80 rfl (by decide) rfl wm_109 dX7_save_23 ?_
      refine lv_iload_n hx hb dX7_save_26 rfl (lv_at hl 1 rfl) ?_
      refine lv_sipush (v := iz 161) hx hb dX7_save_27 (by decide +kernel) ?_
      refine g_iadd hx hb dX7_save_30 ?_
      obtain ⟨o12, hv⟩ := hv
      refine g_ald hx hb G sh_82 o12.1 o12.2 (by decide) dX7_save_31 ?_
      obtain ⟨o13, hv⟩ := hv
      refine g_ast hx hb G sh_82 o13.1 o13.2 (by decide) dX7_save_32 (fun s14 es14 H locs G => ?_)
      have hv := hv s14 es14
      refine g_iinc (k := 1) (x := y1) (n := 1) (lv' := [(1, .int (iz (y1 + 1))), (0, .ref (gad w 80))]) hx hb dX7_save_33 hl rfl (by decide) rfl (fun ls hl => ?_)
      refine lv_goto (tgt := 10) hx hb dX7_save_36 (by decide) ?_
      exact ih _ _ _ _ _ hv G (lv_sub hl [1, 0] rfl)
set_option maxHeartbeats 4000000 in
set_option maxRecDepth 100000 in
theorem c_X7_save (l : Launch) (w : GW) (σ : St) (sz : Nat) (hp : pre_X7_save σ) : Met l yX7_save (Cond.code yX7_save cX7_save 2 none :: wsL_law) rm_X7_save (gPc w gSL σ sz [.ref (gad w 80)]) (gQv w gSL sz (post_X7_save σ)) 0 0 (gA w gSL.length sz) := by
  have hv : V_X7_save σ (post_X7_save σ) := v_X7_save σ hp
  refine g_met (by decide) [.ref (gad w 80)] (Nat.le_of_ble_eq_true rfl) ?_
  intro p e s m below meth c ls hz C0 hl G
  obtain ⟨hx, hb, hr, hml, hown, hts, hlk, hNw, hA⟩ := id C0
  have hown : s.vm.findClass RX7 = some m.cls := hown
  have hl : lv_has ls 2 [(0, .ref (gad w 80))] := hl
  refine lv_aload_n hx hb dX7_save_0 rfl (lv_at hl 0 rfl) ?_
  refine g_getI hx hb hts hown 2 inlX7 G sh_80 rfl (by decide) rfl wm_190 dX7_save_1 ?_
  refine lv_iconst (v := iz 4) hx hb dX7_save_4 rfl ?_
  obtain ⟨i1, hv⟩ := hv
  refine g_icmp_ne (tgt := 49) hx hb i1 ⟨by decide, by decide⟩ dX7_save_5 (by decide) (fun c2 => ?_) (fun c2 => ?_)
  · have hv := hv.1 c2
    refine lv_iconst (v := iz 0) hx hb dX7_save_49 rfl ?_
    refine lv_istore_n (lv' := [(1, .int (iz 0)), (0, .ref (gad w 80))]) hx hb dX7_save_50 rfl hl (by decide) rfl (fun ls hl => ?_)
    obtain ⟨n_, hv⟩ := hv
    exact lw_X7_save_51 (l := l) (p := p) (e := e) hz C0 _ n_ _ _ _ _ _ hv G (lv_sub hl [1, 0] rfl)
  · have hv := hv.2 c2
    refine lv_iconst (v := iz 0) hx hb dX7_save_8 rfl ?_
    refine lv_istore_n (lv' := [(1, .int (iz 0)), (0, .ref (gad w 80))]) hx hb dX7_save_9 rfl hl (by decide) rfl (fun ls hl => ?_)
    obtain ⟨n_, hv⟩ := hv
    exact lw_X7_save_10 (l := l) (p := p) (e := e) hz C0 _ n_ _ _ _ _ _ hv G (lv_sub hl [1, 0] rfl)
abbrev rm_X7_isByte : Room := ({ frames := 1, cells := 0, slots := 0, locals := 22 } : Room)
theorem hd_X7_isByte : yX7_isByte.cls ≠ "java/lang/invoke/MethodHandle" ∧ yX7_isByte.cls ≠ "java/lang/invoke/VarHandle" ∧ (parseMethodDescriptor yX7_isByte.desc).map (fun d => d.parameters.length) = some 1 := ⟨by decide +kernel, by decide +kernel, by decide +kernel⟩
set_option maxHeartbeats 4000000 in
set_option maxRecDepth 100000 in
theorem c_X7_isByte (l : Launch) (w : GW) (σ : St) (sz : Nat) (x0 : Int) (hp : pre_X7_isByte x0 σ) : Met l yX7_isByte (Cond.code yX7_isByte cX7_isByte 1 (some .boolean) :: wsL_law) rm_X7_isByte (gPc w gSL σ sz [.int (iz x0)]) (gQi w gSL sz (post_X7_isByte x0 σ)) 0 0 (gA w gSL.length sz) := by
  have hv : V_X7_isByte x0 σ (post_X7_isByte x0 σ) := v_X7_isByte x0 σ hp
  refine g_met (by decide) [.int (iz x0)] (Nat.le_of_ble_eq_true rfl) ?_
  intro p e s m below meth c ls hz C0 hl G
  obtain ⟨hx, hb, hr, hml, hown, hts, hlk, hNw, hA⟩ := id C0
  have hown : s.vm.findClass RX7 = some m.cls := hown
  have hl : lv_has ls 1 [(0, .int (iz x0))] := hl
  refine lv_iload_n hx hb dX7_isByte_0 rfl (lv_at hl 0 rfl) ?_
  refine lv_bipush (v := iz 32) hx hb dX7_isByte_1 (by decide +kernel) ?_
  refine lv_bipush (v := iz 126) hx hb dX7_isByte_3 (by decide +kernel) ?_
  obtain ⟨p1, hv⟩ := hv
  refine g_callSi (rest := []) hx hb hml hts hown hNw hA G [.int (iz x0), .int (iz 32), .int (iz 126)] (c_X7_in l w σ _ x0 32 126 p1) wm_176 wm_177 wm_5 wm_178 hd_X7_in ⟨rfl, rfl, Nat.le_of_ble_eq_true rfl, Nat.le_of_ble_eq_true rfl⟩ rfl hl.1 (Nat.le_of_ble_eq_true rfl) rfl dX7_isByte_5 ⟨Nat.zero_le _, Nat.zero_le _⟩ (fun r4 s2 H locs h3 G => ?_)
  obtain ⟨er4, es2⟩ := h3
  rw [es2] at G
  have hv := hv r4 er4
  exact g_zret hx hb hr hlk hz G hv.1 hv.2 dX7_isByte_8
abbrev rm_X7_isPosition : Room := ({ frames := 1, cells := 0, slots := 0, locals := 22 } : Room)
theorem hd_X7_isPosition : yX7_isPosition.cls = RX7 ∧ yX7_isPosition.cls ≠ "java/lang/invoke/MethodHandle" ∧ yX7_isPosition.cls ≠ "java/lang/invoke/VarHandle" ∧ (parseMethodDescriptor yX7_isPosition.desc).map (fun d => d.parameters.length) = some 1 := ⟨rfl, by decide +kernel, by decide +kernel, by decide +kernel⟩
set_option maxHeartbeats 4000000 in
set_option maxRecDepth 100000 in
theorem c_X7_isPosition (l : Launch) (w : GW) (σ : St) (sz : Nat) (x1 : Int) (hp : pre_X7_isPosition x1 σ) : Met l yX7_isPosition (Cond.code yX7_isPosition cX7_isPosition 2 (some .boolean) :: wsL_law) rm_X7_isPosition (gPc w gSL σ sz [.ref (gad w 80), .int (iz x1)]) (gQi w gSL sz (post_X7_isPosition x1 σ)) 0 0 (gA w gSL.length sz) := by
  have hv : V_X7_isPosition x1 σ (post_X7_isPosition x1 σ) := v_X7_isPosition x1 σ hp
  refine g_met (by decide) [.ref (gad w 80), .int (iz x1)] (Nat.le_of_ble_eq_true rfl) ?_
  intro p e s m below meth c ls hz C0 hl G
  obtain ⟨hx, hb, hr, hml, hown, hts, hlk, hNw, hA⟩ := id C0
  have hown : s.vm.findClass RX7 = some m.cls := hown
  have hl : lv_has ls 2 [(0, .ref (gad w 80)), (1, .int (iz x1))] := hl
  refine lv_iload_n hx hb dX7_isPosition_0 rfl (lv_at hl 1 rfl) ?_
  refine lv_iconst (v := iz 0) hx hb dX7_isPosition_1 rfl ?_
  refine lv_aload_n hx hb dX7_isPosition_2 rfl (lv_at hl 0 rfl) ?_
  refine g_getR hx hb hts hown 0 81 inlX7 G sh_80 rfl (by decide) rfl wm_108 dX7_isPosition_3 ?_
  refine lv_iconst (v := iz 0) hx hb dX7_isPosition_6 rfl ?_
  refine g_ald hx hb G sh_81 (by decide) (by decide) (by decide) dX7_isPosition_7 ?_
  refine lv_iconst (v := iz 1) hx hb dX7_isPosition_8 rfl ?_
  refine g_isub hx hb dX7_isPosition_9 ?_
  obtain ⟨p1, hv⟩ := hv
  refine g_callSi (rest := []) hx hb hml hts hown hNw hA G [.int (iz x1), .int (iz 0), .int (iz ((σ 81 0) - 1))] (c_X7_in l w σ _ x1 0 ((σ 81 0) - 1) p1) wm_176 wm_177 wm_5 wm_178 hd_X7_in ⟨rfl, rfl, Nat.le_of_ble_eq_true rfl, Nat.le_of_ble_eq_true rfl⟩ rfl hl.1 (Nat.le_of_ble_eq_true rfl) rfl dX7_isPosition_10 ⟨Nat.zero_le _, Nat.zero_le _⟩ (fun r4 s2 H locs h3 G => ?_)
  obtain ⟨er4, es2⟩ := h3
  rw [es2] at G
  have hv := hv r4 er4
  exact g_zret hx hb hr hlk hz G hv.1 hv.2 dX7_isPosition_13
abbrev rm_X7_insert : Room := ({ frames := 2, cells := 0, slots := 0, locals := 42 } : Room)
theorem hd_X7_insert : yX7_insert.cls = RX7 ∧ yX7_insert.cls ≠ "java/lang/invoke/MethodHandle" ∧ yX7_insert.cls ≠ "java/lang/invoke/VarHandle" ∧ (parseMethodDescriptor yX7_insert.desc).map (fun d => d.parameters.length) = some 2 := ⟨rfl, by decide +kernel, by decide +kernel, by decide +kernel⟩
set_option maxHeartbeats 4000000 in
set_option maxRecDepth 100000 in
theorem lw_X7_insert_57 {p : Program} {l : Launch} {e : Env} {s : State} {m : MethodId} {args : Array Value} {below : List Frame} {meth : Method} {c : Code} {w : GW} {sz : Nat} (hz : s.heap.size = sz) (C0 : gC p s m args meth c cX7_insert (some .int) 4 yX7_insert.cls (gA w gSL.length sz)) (Q : Int → St → Prop) (y1 y2 : Int) : ∀ (n : Nat) (y3 : Int) (σ : St) (H : Heap) (locs : List Loc) (ls : Array Slot), L_X7_insert_57 Q y1 y2 n y3 σ → gS w gSL σ (gA w gSL.length sz) s s.heap H locs → lv_has ls 4 [(0, .ref (gad w 80)), (1, .int (iz y1)), (2, .int (iz y2)), (3, .int (iz y3))] → W p l e rm_X7_insert s m args below meth c H locs 0 0 (MQ below (gQi w gSL sz Q) args s 0 0 (gA w gSL.length sz)) (F0 m 57 ls []) := by
  obtain ⟨hx, hb, hr, hml, hown, hts, hlk, hNw, hA⟩ := id C0
  have hown : s.vm.findClass RX7 = some m.cls := hown
  intro n
  induction n with
  | zero => intro y3 σ H locs ls hv; exact hv.elim
  | succ n ih =>
    intro y3 σ H locs ls hv G hl
    refine lv_iload_n hx hb dX7_insert_57 rfl (lv_at hl 3 rfl) ?_
    refine lv_iload_n hx hb dX7_insert_58 rfl (lv_at hl 1 rfl) ?_
    obtain ⟨i22, hv⟩ := hv
    obtain ⟨i23, hv⟩ := hv
    refine g_icmp_le (tgt := 86) hx hb i22 i23 dX7_insert_59 (by decide) (fun c24 => ?_) (fun c24 => ?_)
    · have hv := hv.1 c24
      refine lv_aload_n hx hb dX7_insert_86 rfl (lv_at hl 0 rfl) ?_
      refine g_getR hx hb hts hown 0 81 inlX7 G sh_80 rfl (by decide) rfl wm_108 dX7_insert_87 ?_
      refine lv_iconst (v := iz 1) hx hb dX7_insert_90 rfl ?_
      refine lv_iload_n hx hb dX7_insert_91 rfl (lv_at hl 1 rfl) ?_
      refine g_iadd hx hb dX7_insert_92 ?_
      refine lv_iload_n hx hb dX7_insert_93 rfl (lv_at hl 2 rfl) ?_
      obtain ⟨o25, hv⟩ := hv
      refine g_ast hx hb G sh_81 o25.1 o25.2 (by decide) dX7_insert_94 (fun s26 es26 H locs G => ?_)
      have hv := hv s26 es26
      refine lv_aload_n hx hb dX7_insert_95 rfl (lv_at hl 0 rfl) ?_
      refine g_getR hx hb hts hown 0 81 inlX7 G sh_80 rfl (by decide) rfl wm_108 dX7_insert_96 ?_
      refine lv_iconst (v := iz 0) hx hb dX7_insert_99 rfl ?_
      refine lv_dup2_11 hx hb dX7_insert_100 rfl rfl ?_
      refine g_ald hx hb G sh_81 (by decide) (by decide) (by decide) dX7_insert_101 ?_
      refine lv_iconst (v := iz 1) hx hb dX7_insert_102 rfl ?_
      refine g_iadd hx hb dX7_insert_103 ?_
      refine g_ast hx hb G sh_81 (by decide) (by decide) (by decide) dX7_insert_104 (fun s27 es27 H locs G => ?_)
      have hv := hv s27 es27
      refine lv_aload_n hx hb dX7_insert_105 rfl (lv_at hl 0 rfl) ?_
      refine g_getR hx hb hts hown 0 81 inlX7 G sh_80 rfl (by decide) rfl wm_108 dX7_insert_106 ?_
      refine lv_iconst (v := iz 0) hx hb dX7_insert_109 rfl ?_
      refine g_ald hx hb G sh_81 (by decide) (by decide) (by decide) dX7_insert_110 ?_
      exact g_iret hx hb hr hlk hz G hv dX7_insert_111
    · have hv := hv.2 c24
      refine lv_aload_n hx hb dX7_insert_62 rfl (lv_at hl 0 rfl) ?_
      refine g_getR hx hb hts hown 0 81 inlX7 G sh_80 rfl (by decide) rfl wm_108 dX7_insert_63 ?_
      refine lv_iconst (v := iz 1) hx hb dX7_insert_66 rfl ?_
      refine lv_iload_n hx hb dX7_insert_67 rfl (lv_at hl 3 rfl) ?_
      refine g_iadd hx hb dX7_insert_68 ?_
      refine lv_aload_n hx hb dX7_insert_69 rfl (lv_at hl 0 rfl) ?_
      refine g_getR hx hb hts hown 0 81 inlX7 G sh_80 rfl (by decide) rfl wm_108 dX7_insert_70 ?_
      refine lv_iconst (v := iz 1) hx hb dX7_insert_73 rfl ?_
      refine lv_iload_n hx hb dX7_insert_74 rfl (lv_at hl 3 rfl) ?_
      refine g_iadd hx hb dX7_insert_75 ?_
      refine lv_iconst (v := iz 1) hx hb dX7_insert_76 rfl ?_
      refine g_isub hx hb dX7_insert_77 ?_
      obtain ⟨o28, hv⟩ := hv
      refine g_ald hx hb G sh_81 o28.1 o28.2 (by decide) dX7_insert_78 ?_
      obtain ⟨o29, hv⟩ := hv
      refine g_ast hx hb G sh_81 o29.1 o29.2 (by decide) dX7_insert_79 (fun s30 es30 H locs G => ?_)
      have hv := hv s30 es30
      refine g_iinc (k := 3) (x := y3) (n := (-1)) (lv' := [(3, .int (iz (y3 + (-1)))), (0, .ref (gad w 80)), (1, .int (iz y1)), (2, .int (iz y2))]) hx hb dX7_insert_80 hl rfl (by decide) rfl (fun ls hl => ?_)
      refine lv_goto (tgt := 57) hx hb dX7_insert_83 (by decide) ?_
      exact ih _ _ _ _ _ hv G (lv_sub hl [1, 2, 3, 0] rfl)
set_option maxHeartbeats 4000000 in
set_option maxRecDepth 100000 in
theorem c_X7_insert (l : Launch) (w : GW) (σ : St) (sz : Nat) (x1 x2 : Int) (hp : pre_X7_insert x1 x2 σ) : Met l yX7_insert (Cond.code yX7_insert cX7_insert 4 (some .int) :: wsL_law) rm_X7_insert (gPc w gSL σ sz [.ref (gad w 80), .int (iz x1), .int (iz x2)]) (gQi w gSL sz (post_X7_insert x1 x2 σ)) 0 0 (gA w gSL.length sz) := by
  have hv : V_X7_insert x1 x2 σ (post_X7_insert x1 x2 σ) := v_X7_insert x1 x2 σ hp
  refine g_met (by decide) [.ref (gad w 80), .int (iz x1), .int (iz x2)] (Nat.le_of_ble_eq_true rfl) ?_
  intro p e s m below meth c ls hz C0 hl G
  obtain ⟨hx, hb, hr, hml, hown, hts, hlk, hNw, hA⟩ := id C0
  have hown : s.vm.findClass RX7 = some m.cls := hown
  have hl : lv_has ls 4 [(0, .ref (gad w 80)), (1, .int (iz x1)), (2, .int (iz x2))] := hl
  refine lv_iload_n hx hb dX7_insert_0 rfl (lv_at hl 1 rfl) ?_
  refine lv_iconst (v := iz 0) hx hb dX7_insert_1 rfl ?_
  refine lv_aload_n hx hb dX7_insert_2 rfl (lv_at hl 0 rfl) ?_
  refine g_getR hx hb hts hown 0 81 inlX7 G sh_80 rfl (by decide) rfl wm_108 dX7_insert_3 ?_
  refine lv_iconst (v := iz 0) hx hb dX7_insert_6 rfl ?_
  refine g_ald hx hb G sh_81 (by decide) (by decide) (by decide) dX7_insert_7 ?_
  obtain ⟨p1, hv⟩ := hv
  refine g_callSi (rest := []) hx hb hml hts hown hNw hA G [.int (iz x1), .int (iz 0), .int (iz (σ 81 0))] (c_X7_in l w σ _ x1 0 (σ 81 0) p1) wm_176 wm_177 wm_5 wm_178 hd_X7_in ⟨rfl, rfl, Nat.le_of_ble_eq_true rfl, Nat.le_of_ble_eq_true rfl⟩ rfl hl.1 (Nat.le_of_ble_eq_true rfl) rfl dX7_insert_8 ⟨Nat.zero_le _, Nat.zero_le _⟩ (fun r4 s2 H locs h3 G => ?_)
  obtain ⟨er4, es2⟩ := h3
  rw [es2] at G
  have hv := hv r4 er4
  obtain ⟨i5, hv⟩ := hv
  refine g_if_eq (tgt := 21) hx hb i5 dX7_insert_11 (by decide) (fun c6 => ?_) (fun c6 => ?_)
  · have hv := hv.1 c6
    refine lv_aload_n hx hb dX7_insert_21 rfl (lv_at hl 0 rfl) ?_
    refine lv_bipush (v := iz (-2)) hx hb dX7_insert_22 (by decide +kernel) ?_
    obtain ⟨p7, hv⟩ := hv
    refine g_callVi (rest := []) hx hb hml hts hown hNw hA G [.int (iz (-2))] (c_X7_fail l w σ _ (-2) p7) sh_80 rfl wm_182 wm_183 wm_184 wm_5 wm_185 hd_X7_fail ⟨rfl, rfl, Nat.le_of_ble_eq_true rfl, Nat.le_of_ble_eq_true rfl⟩ rfl hl.1 (Nat.le_of_ble_eq_true rfl) rfl dX7_insert_24 ⟨Nat.zero_le _, Nat.zero_le _⟩ (fun r10 s8 H locs h9 G => ?_)
    have hv := hv r10 h9.1 s8 h9.2
    exact g_iret hx hb hr hlk hz G hv dX7_insert_27
  · have hv := hv.2 c6
    refine lv_iload_n hx hb dX7_insert_14 rfl (lv_at hl 2 rfl) ?_
    obtain ⟨p11, hv⟩ := hv
    refine g_callSi (rest := []) hx hb hml hts hown hNw hA G [.int (iz x2)] (c_X7_isByte l w σ _ x2 p11) wm_179 wm_180 wm_5 wm_181 hd_X7_isByte ⟨rfl, rfl, Nat.le_of_ble_eq_true rfl, Nat.le_of_ble_eq_true rfl⟩ rfl hl.1 (Nat.le_of_ble_eq_true rfl) rfl dX7_insert_15 ⟨Nat.zero_le _, Nat.zero_le _⟩ (fun r14 s12 H locs h13 G => ?_)
    obtain ⟨er14, es12⟩ := h13
    rw [es12] at G
    have hv := hv r14 er14
    obtain ⟨i15, hv⟩ := hv
    refine g_if_ne (tgt := 28) hx hb i15 dX7_insert_18 (by decide) (fun c16 => ?_) (fun c16 => ?_)
    · have hv := hv.1 c16
      refine lv_aload_n hx hb dX7_insert_28 rfl (lv_at hl 0 rfl) ?_
      refine g_getR hx hb hts hown 0 81 inlX7 G sh_80 rfl (by decide) rfl wm_108 dX7_insert_29 ?_
      refine lv_iconst (v := iz 0) hx hb dX7_insert_32 rfl ?_
      refine g_ald hx hb G sh_81 (by decide) (by decide) (by decide) dX7_insert_33 ?_
      refine lv_bipush (v := iz 100) hx hb dX7_insert_34 (by decide +kernel) ?_
      obtain ⟨i17, hv⟩ := hv
      refine g_icmp_ne (tgt := 46) hx hb i17 ⟨by decide, by decide⟩ dX7_insert_36 (by decide) (fun c18 => ?_) (fun c18 => ?_)
      · have hv := hv.1 c18
        refine lv_aload_n hx hb dX7_insert_46 rfl (lv_at hl 0 rfl) ?_
        obtain ⟨p19, hv⟩ := hv
        refine g_callVv (rest := []) hx hb hml hts hown hNw hA G [] (c_X7_save l w σ _ p19) sh_80 rfl wm_186 wm_187 wm_188 wm_5 wm_189 hd_X7_save ⟨rfl, rfl, Nat.le_of_ble_eq_true rfl, Nat.le_of_ble_eq_true rfl⟩ rfl hl.1 (Nat.le_of_ble_eq_true rfl) rfl dX7_insert_47 ⟨Nat.zero_le _, Nat.zero_le _⟩ (fun s20 H locs h21 G => ?_)
        have hv := hv s20 h21
        refine lv_aload_n hx hb dX7_insert_50 rfl (lv_at hl 0 rfl) ?_
        refine g_getR hx hb hts hown 0 81 inlX7 G sh_80 rfl (by decide) rfl wm_108 dX7_insert_51 ?_
        refine lv_iconst (v := iz 0) hx hb dX7_insert_54 rfl ?_
        refine g_ald hx hb G sh_81 (by decide) (by decide) (by decide) dX7_insert_55 ?_
        refine lv_istore_n (lv' := [(3, .int (iz (s20 81 0))), (0, .ref (gad w 80)), (1, .int (iz x1)), (2, .int (iz x2))]) hx hb dX7_insert_56 rfl hl (by decide) rfl (fun ls hl => ?_)
        obtain ⟨n_, hv⟩ := hv
        exact lw_X7_insert_57 (l := l) (p := p) (e := e) hz C0 _ x1 x2 n_ _ _ _ _ _ hv G (lv_sub hl [1, 2, 3, 0] rfl)
      · have hv := hv.2 c18
        refine lv_aload_n hx hb dX7_insert_39 rfl (lv_at hl 0 rfl) ?_
        refine lv_bipush (v := iz (-4)) hx hb dX7_insert_40 (by decide +kernel) ?_
        obtain ⟨p31, hv⟩ := hv
        refine g_callVi (rest := []) hx hb hml hts hown hNw hA G [.int (iz (-4))] (c_X7_fail l w σ _ (-4) p31) sh_80 rfl wm_182 wm_183 wm_184 wm_5 wm_185 hd_X7_fail ⟨rfl, rfl, Nat.le_of_ble_eq_true rfl, Nat.le_of_ble_eq_true rfl⟩ rfl hl.1 (Nat.le_of_ble_eq_true rfl) rfl dX7_insert_42 ⟨Nat.zero_le _, Nat.zero_le _⟩ (fun r34 s32 H locs h33 G => ?_)
        have hv := hv r34 h33.1 s32 h33.2
        exact g_iret hx hb hr hlk hz G hv dX7_insert_45
    · have hv := hv.2 c16
      refine lv_aload_n hx hb dX7_insert_21 rfl (lv_at hl 0 rfl) ?_
      refine lv_bipush (v := iz (-2)) hx hb dX7_insert_22 (by decide +kernel) ?_
      obtain ⟨p35, hv⟩ := hv
      refine g_callVi (rest := []) hx hb hml hts hown hNw hA G [.int (iz (-2))] (c_X7_fail l w σ _ (-2) p35) sh_80 rfl wm_182 wm_183 wm_184 wm_5 wm_185 hd_X7_fail ⟨rfl, rfl, Nat.le_of_ble_eq_true rfl, Nat.le_of_ble_eq_true rfl⟩ rfl hl.1 (Nat.le_of_ble_eq_true rfl) rfl dX7_insert_24 ⟨Nat.zero_le _, Nat.zero_le _⟩ (fun r38 s36 H locs h37 G => ?_)
      have hv := hv r38 h37.1 s36 h37.2
      exact g_iret hx hb hr hlk hz G hv dX7_insert_27
abbrev rm_X7_replace : Room := ({ frames := 2, cells := 0, slots := 0, locals := 43 } : Room)
theorem hd_X7_replace : yX7_replace.cls = RX7 ∧ yX7_replace.cls ≠ "java/lang/invoke/MethodHandle" ∧ yX7_replace.cls ≠ "java/lang/invoke/VarHandle" ∧ (parseMethodDescriptor yX7_replace.desc).map (fun d => d.parameters.length) = some 2 := ⟨rfl, by decide +kernel, by decide +kernel, by decide +kernel⟩
set_option maxHeartbeats 4000000 in
set_option maxRecDepth 100000 in
theorem c_X7_replace (l : Launch) (w : GW) (σ : St) (sz : Nat) (x1 x2 : Int) (hp : pre_X7_replace x1 x2 σ) : Met l yX7_replace (Cond.code yX7_replace cX7_replace 4 (some .int) :: wsL_law) rm_X7_replace (gPc w gSL σ sz [.ref (gad w 80), .int (iz x1), .int (iz x2)]) (gQi w gSL sz (post_X7_replace x1 x2 σ)) 0 0 (gA w gSL.length sz) := by
  have hv : V_X7_replace x1 x2 σ (post_X7_replace x1 x2 σ) := v_X7_replace x1 x2 σ hp
  refine g_met (by decide) [.ref (gad w 80), .int (iz x1), .int (iz x2)] (Nat.le_of_ble_eq_true rfl) ?_
  intro p e s m below meth c ls hz C0 hl G
  obtain ⟨hx, hb, hr, hml, hown, hts, hlk, hNw, hA⟩ := id C0
  have hown : s.vm.findClass RX7 = some m.cls := hown
  have hl : lv_has ls 4 [(0, .ref (gad w 80)), (1, .int (iz x1)), (2, .int (iz x2))] := hl
  refine lv_aload_n hx hb dX7_replace_0 rfl (lv_at hl 0 rfl) ?_
  refine lv_iload_n hx hb dX7_replace_1 rfl (lv_at hl 1 rfl) ?_
  obtain ⟨p1, hv⟩ := hv
  refine g_callVi (rest := []) hx hb hml hts hown hNw hA G [.int (iz x1)] (c_X7_isPosition l w σ _ x1 p1) sh_80 rfl wm_211 wm_212 wm_213 wm_5 wm_214 hd_X7_isPosition ⟨rfl, rfl, Nat.le_of_ble_eq_true rfl, Nat.le_of_ble_eq_true rfl⟩ rfl hl.1 (Nat.le_of_ble_eq_true rfl) rfl dX7_replace_2 ⟨Nat.zero_le _, Nat.zero_le _⟩ (fun r4 s2 H locs h3 G => ?_)
  obtain ⟨er4, es2⟩ := h3
  rw [es2] at G
  have hv := hv r4 er4
  obtain ⟨i5, hv⟩ := hv
  refine g_if_eq (tgt := 15) hx hb i5 dX7_replace_5 (by decide) (fun c6 => ?_) (fun c6 => ?_)
  · have hv := hv.1 c6
    refine lv_aload_n hx hb dX7_replace_15 rfl (lv_at hl 0 rfl) ?_
    refine lv_bipush (v := iz (-2)) hx hb dX7_replace_16 (by decide +kernel) ?_
    obtain ⟨p7, hv⟩ := hv
    refine g_callVi (rest := []) hx hb hml hts hown hNw hA G [.int (iz (-2))] (c_X7_fail l w σ _ (-2) p7) sh_80 rfl wm_182 wm_183 wm_184 wm_5 wm_185 hd_X7_fail ⟨rfl, rfl, Nat.le_of_ble_eq_true rfl, Nat.le_of_ble_eq_true rfl⟩ rfl hl.1 (Nat.le_of_ble_eq_true rfl) rfl dX7_replace_18 ⟨Nat.zero_le _, Nat.zero_le _⟩ (fun r10 s8 H locs h9 G => ?_)
    have hv := hv r10 h9.1 s8 h9.2
    exact g_iret hx hb hr hlk hz G hv dX7_replace_21
  · have hv := hv.2 c6
    refine lv_iload_n hx hb dX7_replace_8 rfl (lv_at hl 2 rfl) ?_
    obtain ⟨p11, hv⟩ := hv
    refine g_callSi (rest := []) hx hb hml hts hown hNw hA G [.int (iz x2)] (c_X7_isByte l w σ _ x2 p11) wm_179 wm_180 wm_5 wm_181 hd_X7_isByte ⟨rfl, rfl, Nat.le_of_ble_eq_true rfl, Nat.le_of_ble_eq_true rfl⟩ rfl hl.1 (Nat.le_of_ble_eq_true rfl) rfl dX7_replace_9 ⟨Nat.zero_le _, Nat.zero_le _⟩ (fun r14 s12 H locs h13 G => ?_)
    obtain ⟨er14, es12⟩ := h13
    rw [es12] at G
    have hv := hv r14 er14
    obtain ⟨i15, hv⟩ := hv
    refine g_if_ne (tgt := 22) hx hb i15 dX7_replace_12 (by decide) (fun c16 => ?_) (fun c16 => ?_)
    · have hv := hv.1 c16
      refine lv_aload_n hx hb dX7_replace_22 rfl (lv_at hl 0 rfl) ?_
      obtain ⟨p17, hv⟩ := hv
      refine g_callVv (rest := []) hx hb hml hts hown hNw hA G [] (c_X7_save l w σ _ p17) sh_80 rfl wm_186 wm_187 wm_188 wm_5 wm_189 hd_X7_save ⟨rfl, rfl, Nat.le_of_ble_eq_true rfl, Nat.le_of_ble_eq_true rfl⟩ rfl hl.1 (Nat.le_of_ble_eq_true rfl) rfl dX7_replace_23 ⟨Nat.zero_le _, Nat.zero_le _⟩ (fun s18 H locs h19 G => ?_)
      have hv := hv s18 h19
      refine lv_aload_n hx hb dX7_replace_26 rfl (lv_at hl 0 rfl) ?_
      refine g_getR hx hb hts hown 0 81 inlX7 G sh_80 rfl (by decide) rfl wm_108 dX7_replace_27 ?_
      refine lv_iconst (v := iz 1) hx hb dX7_replace_30 rfl ?_
      refine lv_iload_n hx hb dX7_replace_31 rfl (lv_at hl 1 rfl) ?_
      refine g_iadd hx hb dX7_replace_32 ?_
      obtain ⟨o20, hv⟩ := hv
      refine g_ald hx hb G sh_81 o20.1 o20.2 (by decide) dX7_replace_33 ?_
      refine lv_istore_n (lv' := [(3, .int (iz (s18 81 (1 + x1)))), (0, .ref (gad w 80)), (1, .int (iz x1)), (2, .int (iz x2))]) hx hb dX7_replace_34 rfl hl (by decide) rfl (fun ls hl => ?_)
      refine lv_aload_n hx hb dX7_replace_35 rfl (lv_at hl 1 rfl) ?_
      refine g_getR hx hb hts hown 0 81 inlX7 G sh_80 rfl (by decide) rfl wm_108 dX7_replace_36 ?_
      refine lv_iconst (v := iz 1) hx hb dX7_replace_39 rfl ?_
      refine lv_iload_n hx hb dX7_replace_40 rfl (lv_at hl 2 rfl) ?_
      refine g_iadd hx hb dX7_replace_41 ?_
      refine lv_iload_n hx hb dX7_replace_42 rfl (lv_at hl 3 rfl) ?_
      obtain ⟨o21, hv⟩ := hv
      refine g_ast hx hb G sh_81 o21.1 o21.2 (by decide) dX7_replace_43 (fun s22 es22 H locs G => ?_)
      have hv := hv s22 es22
      refine lv_iload_n hx hb dX7_replace_44 rfl (lv_at hl 0 rfl) ?_
      exact g_iret hx hb hr hlk hz G hv dX7_replace_45
    · have hv := hv.2 c16
      refine lv_aload_n hx hb dX7_replace_15 rfl (lv_at hl 0 rfl) ?_
      refine lv_bipush (v := iz (-2)) hx hb dX7_replace_16 (by decide +kernel) ?_
      obtain ⟨p23, hv⟩ := hv
      refine g_callVi (rest := []) hx hb hml hts hown hNw hA G [.int (iz (-2))] (c_X7_fail l w σ _ (-2) p23) sh_80 rfl wm_182 wm_183 wm_184 wm_5 wm_185 hd_X7_fail ⟨rfl, rfl, Nat.le_of_ble_eq_true rfl, Nat.le_of_ble_eq_true rfl⟩ rfl hl.1 (Nat.le_of_ble_eq_true rfl) rfl dX7_replace_18 ⟨Nat.zero_le _, Nat.zero_le _⟩ (fun r26 s24 H locs h25 G => ?_)
      have hv := hv r26 h25.1 s24 h25.2
      exact g_iret hx hb hr hlk hz G hv dX7_replace_21
abbrev rm_X7_delete : Room := ({ frames := 2, cells := 0, slots := 0, locals := 43 } : Room)
theorem hd_X7_delete : yX7_delete.cls = RX7 ∧ yX7_delete.cls ≠ "java/lang/invoke/MethodHandle" ∧ yX7_delete.cls ≠ "java/lang/invoke/VarHandle" ∧ (parseMethodDescriptor yX7_delete.desc).map (fun d => d.parameters.length) = some 2 := ⟨rfl, by decide +kernel, by decide +kernel, by decide +kernel⟩
set_option maxHeartbeats 4000000 in
set_option maxRecDepth 100000 in
theorem lw_X7_delete_37 {p : Program} {l : Launch} {e : Env} {s : State} {m : MethodId} {args : Array Value} {below : List Frame} {meth : Method} {c : Code} {w : GW} {sz : Nat} (hz : s.heap.size = sz) (C0 : gC p s m args meth c cX7_delete (some .int) 4 yX7_delete.cls (gA w gSL.length sz)) (Q : Int → St → Prop) (y2 : Int) : ∀ (n : Nat) (y3 : Int) (σ : St) (H : Heap) (locs : List Loc) (ls : Array Slot), L_X7_delete_37 Q y2 n y3 σ → gS w gSL σ (gA w gSL.length sz) s s.heap H locs → lv_has ls 4 [(0, .ref (gad w 80)), (2, .int (iz y2)), (3, .int (iz y3))] → W p l e rm_X7_delete s m args below meth c H locs 0 0 (MQ below (gQi w gSL sz Q) args s 0 0 (gA w gSL.length sz)) (F0 m 37 ls []) := by
  obtain ⟨hx, hb, hr, hml, hown, hts, hlk, hNw, hA⟩ := id C0
  have hown : s.vm.findClass RX7 = some m.cls := hown
  intro n
  induction n with
  | zero => intro y3 σ H locs ls hv; exact hv.elim
  | succ n ih =>
    intro y3 σ H locs ls hv G hl
    refine lv_iload_n hx hb dX7_delete_37 rfl (lv_at hl 2 rfl) ?_
    refine lv_iload_n hx hb dX7_delete_38 rfl (lv_at hl 1 rfl) ?_
    refine g_iadd hx hb dX7_delete_39 ?_
    refine lv_aload_n hx hb dX7_delete_40 rfl (lv_at hl 0 rfl) ?_
    refine g_getR hx hb hts hown 0 81 inlX7 G sh_80 rfl (by decide) rfl wm_108 dX7_delete_41 ?_
    refine lv_iconst (v := iz 0) hx hb dX7_delete_44 rfl ?_
    refine g_ald hx hb G sh_81 (by decide) (by decide) (by decide) dX7_delete_45 ?_
    obtain ⟨i20, hv⟩ := hv
    obtain ⟨i21, hv⟩ := hv
    refine g_icmp_ge (tgt := 73) hx hb i20 i21 dX7_delete_46 (by decide) (fun c22 => ?_) (fun c22 => ?_)
    · have hv := hv.1 c22
      refine lv_aload_n hx hb dX7_delete_73 rfl (lv_at hl 0 rfl) ?_
      refine g_getR hx hb hts hown 0 81 inlX7 G sh_80 rfl (by decide) rfl wm_108 dX7_delete_74 ?_
      refine lv_iconst (v := iz 0) hx hb dX7_delete_77 rfl ?_
      refine lv_dup2_11 hx hb dX7_delete_78 rfl rfl ?_
      refine g_ald hx hb G sh_81 (by decide) (by decide) (by decide) dX7_delete_79 ?_
      refine lv_iload_n hx hb dX7_delete_80 rfl (lv_at hl 1 rfl) ?_
      refine g_isub hx hb dX7_delete_81 ?_
      refine g_ast hx hb G sh_81 (by decide) (by decide) (by decide) dX7_delete_82 (fun s23 es23 H locs G => ?_)
      have hv := hv s23 es23
      refine lv_aload_n hx hb dX7_delete_83 rfl (lv_at hl 0 rfl) ?_
      refine g_getR hx hb hts hown 0 81 inlX7 G sh_80 rfl (by decide) rfl wm_108 dX7_delete_84 ?_
      refine lv_iconst (v := iz 0) hx hb dX7_delete_87 rfl ?_
      refine g_ald hx hb G sh_81 (by decide) (by decide) (by decide) dX7_delete_88 ?_
      exact g_iret hx hb hr hlk hz G hv dX7_delete_89
    · have hv := hv.2 c22
      refine lv_aload_n hx hb dX7_delete_49 rfl (lv_at hl 0 rfl) ?_
      refine g_getR hx hb hts hown 0 81 inlX7 G sh_80 rfl (by decide) rfl wm_108 dX7_delete_50 ?_
      refine lv_iconst (v := iz 1) hx hb dX7_delete_53 rfl ?_
      refine lv_iload_n hx hb dX7_delete_54 rfl (lv_at hl 2 rfl) ?_
      refine g_iadd hx hb dX7_delete_55 ?_
      refine lv_aload_n hx hb dX7_delete_56 rfl (lv_at hl 0 rfl) ?_
      refine g_getR hx hb hts hown 0 81 inlX7 G sh_80 rfl (by decide) rfl wm_108 dX7_delete_57 ?_
      refine lv_iconst (v := iz 1) hx hb dX7_delete_60 rfl ?_
      refine lv_iload_n hx hb dX7_delete_61 rfl (lv_at hl 2 rfl) ?_
      refine g_iadd hx hb dX7_delete_62 ?_
      refine lv_iload_n hx hb dX7_delete_63 rfl (lv_at hl 1 rfl) ?_
      refine g_iadd hx hb dX7_delete_64 ?_
      obtain ⟨o24, hv⟩ := hv
      refine g_ald hx hb G sh_81 o24.1 o24.2 (by decide) dX7_delete_65 ?_
      obtain ⟨o25, hv⟩ := hv
      refine g_ast hx hb G sh_81 o25.1 o25.2 (by decide) dX7_delete_66 (fun s26 es26 H locs G => ?_)
      have hv := hv s26 es26
      refine g_iinc (k := 2) (x := y3) (n := 1) (lv' := [(3, .int (iz (y3 + 1))), (0, .ref (gad w 80)), (2, .int (iz y2))]) hx hb dX7_delete_67 hl rfl (by decide) rfl (fun ls hl => ?_)
      refine lv_goto (tgt := 37) hx hb dX7_delete_70 (by decide) ?_
      exact ih _ _ _ _ _ hv G (lv_sub hl [1, 2, 0] rfl)
set_option maxHeartbeats 4000000 in
set_option maxRecDepth 100000 in
theorem c_X7_delete (l : Launch) (w : GW) (σ : St) (sz : Nat) (x1 x2 : Int) (hp : pre_X7_delete x1 x2 σ) : Met l yX7_delete (Cond.code yX7_delete cX7_delete 4 (some .int) :: wsL_law) rm_X7_delete (gPc w gSL σ sz [.ref (gad w 80), .int (iz x1), .int (iz x2)]) (gQi w gSL sz (post_X7_delete x1 x2 σ)) 0 0 (gA w gSL.length sz) := by
  have hv : V_X7_delete x1 x2 σ (post_X7_delete x1 x2 σ) := v_X7_delete x1 x2 σ hp
  refine g_met (by decide) [.ref (gad w 80), .int (iz x1), .int (iz x2)] (Nat.le_of_ble_eq_true rfl) ?_
  intro p e s m below meth c ls hz C0 hl G
  obtain ⟨hx, hb, hr, hml, hown, hts, hlk, hNw, hA⟩ := id C0
  have hown : s.vm.findClass RX7 = some m.cls := hown
  have hl : lv_has ls 4 [(0, .ref (gad w 80)), (1, .int (iz x1)), (2, .int (iz x2))] := hl
  refine lv_aload_n hx hb dX7_delete_0 rfl (lv_at hl 0 rfl) ?_
  refine lv_iload_n hx hb dX7_delete_1 rfl (lv_at hl 1 rfl) ?_
  obtain ⟨p1, hv⟩ := hv
  refine g_callVi (rest := []) hx hb hml hts hown hNw hA G [.int (iz x1)] (c_X7_isPosition l w σ _ x1 p1) sh_80 rfl wm_211 wm_212 wm_213 wm_5 wm_214 hd_X7_isPosition ⟨rfl, rfl, Nat.le_of_ble_eq_true rfl, Nat.le_of_ble_eq_true rfl⟩ rfl hl.1 (Nat.le_of_ble_eq_true rfl) rfl dX7_delete_2 ⟨Nat.zero_le _, Nat.zero_le _⟩ (fun r4 s2 H locs h3 G => ?_)
  obtain ⟨er4, es2⟩ := h3
  rw [es2] at G
  have hv := hv r4 er4
  obtain ⟨i5, hv⟩ := hv
  refine g_if_eq (tgt := 24) hx hb i5 dX7_delete_5 (by decide) (fun c6 => ?_) (fun c6 => ?_)
  · have hv := hv.1 c6
    refine lv_aload_n hx hb dX7_delete_24 rfl (lv_at hl 0 rfl) ?_
    refine lv_bipush (v := iz (-2)) hx hb dX7_delete_25 (by decide +kernel) ?_
    obtain ⟨p7, hv⟩ := hv
    refine g_callVi (rest := []) hx hb hml hts hown hNw hA G [.int (iz (-2))] (c_X7_fail l w σ _ (-2) p7) sh_80 rfl wm_182 wm_183 wm_184 wm_5 wm_185 hd_X7_fail ⟨rfl, rfl, Nat.le_of_ble_eq_true rfl, Nat.le_of_ble_eq_true rfl⟩ rfl hl.1 (Nat.le_of_ble_eq_true rfl) rfl dX7_delete_27 ⟨Nat.zero_le _, Nat.zero_le _⟩ (fun r10 s8 H locs h9 G => ?_)
    have hv := hv r10 h9.1 s8 h9.2
    exact g_iret hx hb hr hlk hz G hv dX7_delete_30
  · have hv := hv.2 c6
    refine lv_iload_n hx hb dX7_delete_8 rfl (lv_at hl 2 rfl) ?_
    refine lv_iconst (v := iz 1) hx hb dX7_delete_9 rfl ?_
    refine lv_aload_n hx hb dX7_delete_10 rfl (lv_at hl 0 rfl) ?_
    refine g_getR hx hb hts hown 0 81 inlX7 G sh_80 rfl (by decide) rfl wm_108 dX7_delete_11 ?_
    refine lv_iconst (v := iz 0) hx hb dX7_delete_14 rfl ?_
    refine g_ald hx hb G sh_81 (by decide) (by decide) (by decide) dX7_delete_15 ?_
    refine lv_iload_n hx hb dX7_delete_16 rfl (lv_at hl 1 rfl) ?_
    refine g_isub hx hb dX7_delete_17 ?_
    obtain ⟨p11, hv⟩ := hv
    refine g_callSi (rest := []) hx hb hml hts hown hNw hA G [.int (iz x2), .int (iz 1), .int (iz ((σ 81 0) - x1))] (c_X7_in l w σ _ x2 1 ((σ 81 0) - x1) p11) wm_176 wm_177 wm_5 wm_178 hd_X7_in ⟨rfl, rfl, Nat.le_of_ble_eq_true rfl, Nat.le_of_ble_eq_true rfl⟩ rfl hl.1 (Nat.le_of_ble_eq_true rfl) rfl dX7_delete_18 ⟨Nat.zero_le _, Nat.zero_le _⟩ (fun r14 s12 H locs h13 G => ?_)
    obtain ⟨er14, es12⟩ := h13
    rw [es12] at G
    have hv := hv r14 er14
    obtain ⟨i15, hv⟩ := hv
    refine g_if_ne (tgt := 31) hx hb i15 dX7_delete_21 (by decide) (fun c16 => ?_) (fun c16 => ?_)
    · have hv := hv.1 c16
      refine lv_aload_n hx hb dX7_delete_31 rfl (lv_at hl 0 rfl) ?_
      obtain ⟨p17, hv⟩ := hv
      refine g_callVv (rest := []) hx hb hml hts hown hNw hA G [] (c_X7_save l w σ _ p17) sh_80 rfl wm_186 wm_187 wm_188 wm_5 wm_189 hd_X7_save ⟨rfl, rfl, Nat.le_of_ble_eq_true rfl, Nat.le_of_ble_eq_true rfl⟩ rfl hl.1 (Nat.le_of_ble_eq_true rfl) rfl dX7_delete_32 ⟨Nat.zero_le _, Nat.zero_le _⟩ (fun s18 H locs h19 G => ?_)
      have hv := hv s18 h19
      refine lv_iload_n hx hb dX7_delete_35 rfl (lv_at hl 1 rfl) ?_
      refine lv_istore_n (lv' := [(3, .int (iz x1)), (0, .ref (gad w 80)), (1, .int (iz x1)), (2, .int (iz x2))]) hx hb dX7_delete_36 rfl hl (by decide) rfl (fun ls hl => ?_)
      obtain ⟨n_, hv⟩ := hv
      exact lw_X7_delete_37 (l := l) (p := p) (e := e) hz C0 _ x2 n_ _ _ _ _ _ hv G (lv_sub hl [1, 3, 0] rfl)
    · have hv := hv.2 c16
      refine lv_aload_n hx hb dX7_delete_24 rfl (lv_at hl 0 rfl) ?_
      refine lv_bipush (v := iz (-2)) hx hb dX7_delete_25 (by decide +kernel) ?_
      obtain ⟨p27, hv⟩ := hv
      refine g_callVi (rest := []) hx hb hml hts hown hNw hA G [.int (iz (-2))] (c_X7_fail l w σ _ (-2) p27) sh_80 rfl wm_182 wm_183 wm_184 wm_5 wm_185 hd_X7_fail ⟨rfl, rfl, Nat.le_of_ble_eq_true rfl, Nat.le_of_ble_eq_true rfl⟩ rfl hl.1 (Nat.le_of_ble_eq_true rfl) rfl dX7_delete_27 ⟨Nat.zero_le _, Nat.zero_le _⟩ (fun r30 s28 H locs h29 G => ?_)
      have hv := hv r30 h29.1 s28 h29.2
      exact g_iret hx hb hr hlk hz G hv dX7_delete_30
abbrev rm_X7_length : Room := ({ frames := 0, cells := 0, slots := 0, locals := 0 } : Room)
theorem hd_X7_length : yX7_length.cls = RX7 ∧ yX7_length.cls ≠ "java/lang/invoke/MethodHandle" ∧ yX7_length.cls ≠ "java/lang/invoke/VarHandle" ∧ (parseMethodDescriptor yX7_length.desc).map (fun d => d.parameters.length) = some 0 := ⟨rfl, by decide +kernel, by decide +kernel, by decide +kernel⟩
set_option maxHeartbeats 4000000 in
set_option maxRecDepth 100000 in
theorem c_X7_length (l : Launch) (w : GW) (σ : St) (sz : Nat) (hp : pre_X7_length σ) : Met l yX7_length (Cond.code yX7_length cX7_length 1 (some .int) :: wsL_law) rm_X7_length (gPc w gSL σ sz [.ref (gad w 80)]) (gQi w gSL sz (post_X7_length σ)) 0 0 (gA w gSL.length sz) := by
  have hv : V_X7_length σ (post_X7_length σ) := v_X7_length σ hp
  refine g_met (by decide) [.ref (gad w 80)] (Nat.le_of_ble_eq_true rfl) ?_
  intro p e s m below meth c ls hz C0 hl G
  obtain ⟨hx, hb, hr, hml, hown, hts, hlk, hNw, hA⟩ := id C0
  have hown : s.vm.findClass RX7 = some m.cls := hown
  have hl : lv_has ls 1 [(0, .ref (gad w 80))] := hl
  refine lv_aload_n hx hb dX7_length_0 rfl (lv_at hl 0 rfl) ?_
  refine g_getR hx hb hts hown 0 81 inlX7 G sh_80 rfl (by decide) rfl wm_108 dX7_length_1 ?_
  refine lv_iconst (v := iz 0) hx hb dX7_length_4 rfl ?_
  refine g_ald hx hb G sh_81 (by decide) (by decide) (by decide) dX7_length_5 ?_
  exact g_iret hx hb hr hlk hz G hv dX7_length_6
abbrev rm_X7_byteAt : Room := ({ frames := 2, cells := 0, slots := 0, locals := 43 } : Room)
theorem hd_X7_byteAt : yX7_byteAt.cls = RX7 ∧ yX7_byteAt.cls ≠ "java/lang/invoke/MethodHandle" ∧ yX7_byteAt.cls ≠ "java/lang/invoke/VarHandle" ∧ (parseMethodDescriptor yX7_byteAt.desc).map (fun d => d.parameters.length) = some 1 := ⟨rfl, by decide +kernel, by decide +kernel, by decide +kernel⟩
set_option maxHeartbeats 4000000 in
set_option maxRecDepth 100000 in
theorem c_X7_byteAt (l : Launch) (w : GW) (σ : St) (sz : Nat) (x1 : Int) (hp : pre_X7_byteAt x1 σ) : Met l yX7_byteAt (Cond.code yX7_byteAt cX7_byteAt 2 (some .int) :: wsL_law) rm_X7_byteAt (gPc w gSL σ sz [.ref (gad w 80), .int (iz x1)]) (gQi w gSL sz (post_X7_byteAt x1 σ)) 0 0 (gA w gSL.length sz) := by
  have hv : V_X7_byteAt x1 σ (post_X7_byteAt x1 σ) := v_X7_byteAt x1 σ hp
  refine g_met (by decide) [.ref (gad w 80), .int (iz x1)] (Nat.le_of_ble_eq_true rfl) ?_
  intro p e s m below meth c ls hz C0 hl G
  obtain ⟨hx, hb, hr, hml, hown, hts, hlk, hNw, hA⟩ := id C0
  have hown : s.vm.findClass RX7 = some m.cls := hown
  have hl : lv_has ls 2 [(0, .ref (gad w 80)), (1, .int (iz x1))] := hl
  refine lv_aload_n hx hb dX7_byteAt_0 rfl (lv_at hl 0 rfl) ?_
  refine lv_iload_n hx hb dX7_byteAt_1 rfl (lv_at hl 1 rfl) ?_
  obtain ⟨p1, hv⟩ := hv
  refine g_callVi (rest := []) hx hb hml hts hown hNw hA G [.int (iz x1)] (c_X7_isPosition l w σ _ x1 p1) sh_80 rfl wm_211 wm_212 wm_213 wm_5 wm_214 hd_X7_isPosition ⟨rfl, rfl, Nat.le_of_ble_eq_true rfl, Nat.le_of_ble_eq_true rfl⟩ rfl hl.1 (Nat.le_of_ble_eq_true rfl) rfl dX7_byteAt_2 ⟨Nat.zero_le _, Nat.zero_le _⟩ (fun r4 s2 H locs h3 G => ?_)
  obtain ⟨er4, es2⟩ := h3
  rw [es2] at G
  have hv := hv r4 er4
  obtain ⟨i5, hv⟩ := hv
  refine g_if_eq (tgt := 19) hx hb i5 dX7_byteAt_5 (by decide) (fun c6 => ?_) (fun c6 => ?_)
  · have hv := hv.1 c6
    refine lv_aload_n hx hb dX7_byteAt_19 rfl (lv_at hl 0 rfl) ?_
    refine lv_bipush (v := iz (-2)) hx hb dX7_byteAt_20 (by decide +kernel) ?_
    obtain ⟨p7, hv⟩ := hv
    refine g_callVi (rest := []) hx hb hml hts hown hNw hA G [.int (iz (-2))] (c_X7_fail l w σ _ (-2) p7) sh_80 rfl wm_182 wm_183 wm_184 wm_5 wm_185 hd_X7_fail ⟨rfl, rfl, Nat.le_of_ble_eq_true rfl, Nat.le_of_ble_eq_true rfl⟩ rfl hl.1 (Nat.le_of_ble_eq_true rfl) rfl dX7_byteAt_22 ⟨Nat.zero_le _, Nat.zero_le _⟩ (fun r10 s8 H locs h9 G => ?_)
    have hv := hv r10 h9.1 s8 h9.2
    exact g_iret hx hb hr hlk hz G hv dX7_byteAt_25
  · have hv := hv.2 c6
    refine lv_aload_n hx hb dX7_byteAt_8 rfl (lv_at hl 0 rfl) ?_
    refine g_getR hx hb hts hown 0 81 inlX7 G sh_80 rfl (by decide) rfl wm_108 dX7_byteAt_9 ?_
    refine lv_iconst (v := iz 1) hx hb dX7_byteAt_12 rfl ?_
    refine lv_iload_n hx hb dX7_byteAt_13 rfl (lv_at hl 1 rfl) ?_
    refine g_iadd hx hb dX7_byteAt_14 ?_
    obtain ⟨o11, hv⟩ := hv
    refine g_ald hx hb G sh_81 o11.1 o11.2 (by decide) dX7_byteAt_15 ?_
    refine lv_goto (tgt := 25) hx hb dX7_byteAt_16 (by decide) ?_
    exact g_iret hx hb hr hlk hz G hv dX7_byteAt_25
abbrev rm_X7_isRule : Room := ({ frames := 1, cells := 0, slots := 0, locals := 22 } : Room)
theorem hd_X7_isRule : yX7_isRule.cls ≠ "java/lang/invoke/MethodHandle" ∧ yX7_isRule.cls ≠ "java/lang/invoke/VarHandle" ∧ (parseMethodDescriptor yX7_isRule.desc).map (fun d => d.parameters.length) = some 1 := ⟨by decide +kernel, by decide +kernel, by decide +kernel⟩
set_option maxHeartbeats 4000000 in
set_option maxRecDepth 100000 in
theorem c_X7_isRule (l : Launch) (w : GW) (σ : St) (sz : Nat) (x0 : Int) (hp : pre_X7_isRule x0 σ) : Met l yX7_isRule (Cond.code yX7_isRule cX7_isRule 1 (some .boolean) :: wsL_law) rm_X7_isRule (gPc w gSL σ sz [.int (iz x0)]) (gQi w gSL sz (post_X7_isRule x0 σ)) 0 0 (gA w gSL.length sz) := by
  have hv : V_X7_isRule x0 σ (post_X7_isRule x0 σ) := v_X7_isRule x0 σ hp
  refine g_met (by decide) [.int (iz x0)] (Nat.le_of_ble_eq_true rfl) ?_
  intro p e s m below meth c ls hz C0 hl G
  obtain ⟨hx, hb, hr, hml, hown, hts, hlk, hNw, hA⟩ := id C0
  have hown : s.vm.findClass RX7 = some m.cls := hown
  have hl : lv_has ls 1 [(0, .int (iz x0))] := hl
  refine lv_iload_n hx hb dX7_isRule_0 rfl (lv_at hl 0 rfl) ?_
  refine lv_iconst (v := iz 0) hx hb dX7_isRule_1 rfl ?_
  refine lv_iconst (v := iz 5) hx hb dX7_isRule_2 rfl ?_
  obtain ⟨p1, hv⟩ := hv
  refine g_callSi (rest := []) hx hb hml hts hown hNw hA G [.int (iz x0), .int (iz 0), .int (iz 5)] (c_X7_in l w σ _ x0 0 5 p1) wm_176 wm_177 wm_5 wm_178 hd_X7_in ⟨rfl, rfl, Nat.le_of_ble_eq_true rfl, Nat.le_of_ble_eq_true rfl⟩ rfl hl.1 (Nat.le_of_ble_eq_true rfl) rfl dX7_isRule_3 ⟨Nat.zero_le _, Nat.zero_le _⟩ (fun r4 s2 H locs h3 G => ?_)
  obtain ⟨er4, es2⟩ := h3
  rw [es2] at G
  have hv := hv r4 er4
  exact g_zret hx hb hr hlk hz G hv.1 hv.2 dX7_isRule_6
abbrev rm_X7_append : Room := ({ frames := 2, cells := 0, slots := 0, locals := 42 } : Room)
theorem hd_X7_append : yX7_append.cls = RX7 ∧ yX7_append.cls ≠ "java/lang/invoke/MethodHandle" ∧ yX7_append.cls ≠ "java/lang/invoke/VarHandle" ∧ (parseMethodDescriptor yX7_append.desc).map (fun d => d.parameters.length) = some 1 := ⟨rfl, by decide +kernel, by decide +kernel, by decide +kernel⟩
set_option maxHeartbeats 4000000 in
set_option maxRecDepth 100000 in
theorem c_X7_append (l : Launch) (w : GW) (σ : St) (sz : Nat) (x1 : Int) (hp : pre_X7_append x1 σ) : Met l yX7_append (Cond.code yX7_append cX7_append 2 (some .int) :: wsL_law) rm_X7_append (gPc w gSL σ sz [.ref (gad w 80), .int (iz x1)]) (gQi w gSL sz (post_X7_append x1 σ)) 0 0 (gA w gSL.length sz) := by
  have hv : V_X7_append x1 σ (post_X7_append x1 σ) := v_X7_append x1 σ hp
  refine g_met (by decide) [.ref (gad w 80), .int (iz x1)] (Nat.le_of_ble_eq_true rfl) ?_
  intro p e s m below meth c ls hz C0 hl G
  obtain ⟨hx, hb, hr, hml, hown, hts, hlk, hNw, hA⟩ := id C0
  have hown : s.vm.findClass RX7 = some m.cls := hown
  have hl : lv_has ls 2 [(0, .ref (gad w 80)), (1, .int (iz x1))] := hl
  refine lv_iload_n hx hb dX7_append_0 rfl (lv_at hl 1 rfl) ?_
  obtain ⟨p1, hv⟩ := hv
  refine g_callSi (rest := []) hx hb hml hts hown hNw hA G [.int (iz x1)] (c_X7_isByte l w σ _ x1 p1) wm_179 wm_180 wm_5 wm_181 hd_X7_isByte ⟨rfl, rfl, Nat.le_of_ble_eq_true rfl, Nat.le_of_ble_eq_true rfl⟩ rfl hl.1 (Nat.le_of_ble_eq_true rfl) rfl dX7_append_1 ⟨Nat.zero_le _, Nat.zero_le _⟩ (fun r4 s2 H locs h3 G => ?_)
  obtain ⟨er4, es2⟩ := h3
  rw [es2] at G
  have hv := hv r4 er4
  obtain ⟨i5, hv⟩ := hv
  refine g_if_ne (tgt := 14) hx hb i5 dX7_append_4 (by decide) (fun c6 => ?_) (fun c6 => ?_)
  · have hv := hv.1 c6
    refine lv_aload_n hx hb dX7_append_14 rfl (lv_at hl 0 rfl) ?_
    refine g_getI hx hb hts hown 4 inlX7 G sh_80 rfl (by decide) rfl wm_251 dX7_append_15 ?_
    refine lv_bipush (v := iz 8) hx hb dX7_append_18 (by decide +kernel) ?_
    obtain ⟨i7, hv⟩ := hv
    refine g_icmp_ne (tgt := 30) hx hb i7 ⟨by decide, by decide⟩ dX7_append_20 (by decide) (fun c8 => ?_) (fun c8 => ?_)
    · have hv := hv.1 c8
      refine lv_aload_n hx hb dX7_append_30 rfl (lv_at hl 0 rfl) ?_
      refine g_getR hx hb hts hown 3 83 inlX7 G sh_80 rfl (by decide) rfl wm_110 dX7_append_31 ?_
      refine lv_aload_n hx hb dX7_append_34 rfl (lv_at hl 0 rfl) ?_
      refine g_getI hx hb hts hown 4 inlX7 G sh_80 rfl (by decide) rfl wm_251 dX7_append_35 ?_
      refine lv_iload_n hx hb dX7_append_38 rfl (lv_at hl 1 rfl) ?_
      obtain ⟨o9, hv⟩ := hv
      refine g_ast hx hb G sh_83 o9.1 o9.2 (by decide) dX7_append_39 (fun s10 es10 H locs G => ?_)
      have hv := hv s10 es10
      refine lv_aload_n hx hb dX7_append_40 rfl (lv_at hl 0 rfl) ?_
      refine lv_dup hx hb dX7_append_41 rfl ?_
      refine g_getI hx hb hts hown 4 inlX7 G sh_80 rfl (by decide) rfl wm_251 dX7_append_42 ?_
      refine lv_iconst (v := iz 1) hx hb dX7_append_45 rfl ?_
      refine g_iadd hx hb dX7_append_46 ?_
      refine g_putI hx hb hts hown 4 inlX7 tyX7 tyX7_ok nmX7 G sh_80 rfl (by decide) rfl wm_251 rfl rfl rfl dX7_append_47 (fun s11 es11 H locs G => ?_)
      have hv := hv s11 es11
      refine lv_aload_n hx hb dX7_append_50 rfl (lv_at hl 0 rfl) ?_
      refine g_getI hx hb hts hown 4 inlX7 G sh_80 rfl (by decide) rfl wm_251 dX7_append_51 ?_
      exact g_iret hx hb hr hlk hz G hv dX7_append_54
    · have hv := hv.2 c8
      refine lv_aload_n hx hb dX7_append_23 rfl (lv_at hl 0 rfl) ?_
      refine lv_bipush (v := iz (-4)) hx hb dX7_append_24 (by decide +kernel) ?_
      obtain ⟨p12, hv⟩ := hv
      refine g_callVi (rest := []) hx hb hml hts hown hNw hA G [.int (iz (-4))] (c_X7_fail l w σ _ (-4) p12) sh_80 rfl wm_182 wm_183 wm_184 wm_5 wm_185 hd_X7_fail ⟨rfl, rfl, Nat.le_of_ble_eq_true rfl, Nat.le_of_ble_eq_true rfl⟩ rfl hl.1 (Nat.le_of_ble_eq_true rfl) rfl dX7_append_26 ⟨Nat.zero_le _, Nat.zero_le _⟩ (fun r15 s13 H locs h14 G => ?_)
      have hv := hv r15 h14.1 s13 h14.2
      exact g_iret hx hb hr hlk hz G hv dX7_append_29
  · have hv := hv.2 c6
    refine lv_aload_n hx hb dX7_append_7 rfl (lv_at hl 0 rfl) ?_
    refine lv_bipush (v := iz (-2)) hx hb dX7_append_8 (by decide +kernel) ?_
    obtain ⟨p16, hv⟩ := hv
    refine g_callVi (rest := []) hx hb hml hts hown hNw hA G [.int (iz (-2))] (c_X7_fail l w σ _ (-2) p16) sh_80 rfl wm_182 wm_183 wm_184 wm_5 wm_185 hd_X7_fail ⟨rfl, rfl, Nat.le_of_ble_eq_true rfl, Nat.le_of_ble_eq_true rfl⟩ rfl hl.1 (Nat.le_of_ble_eq_true rfl) rfl dX7_append_10 ⟨Nat.zero_le _, Nat.zero_le _⟩ (fun r19 s17 H locs h18 G => ?_)
    have hv := hv r19 h18.1 s17 h18.2
    exact g_iret hx hb hr hlk hz G hv dX7_append_13
abbrev rm_X7_clearPattern : Room := ({ frames := 0, cells := 0, slots := 0, locals := 0 } : Room)
theorem hd_X7_clearPattern : yX7_clearPattern.cls = RX7 ∧ yX7_clearPattern.cls ≠ "java/lang/invoke/MethodHandle" ∧ yX7_clearPattern.cls ≠ "java/lang/invoke/VarHandle" ∧ (parseMethodDescriptor yX7_clearPattern.desc).map (fun d => d.parameters.length) = some 0 := ⟨rfl, by decide +kernel, by decide +kernel, by decide +kernel⟩
set_option maxHeartbeats 4000000 in
set_option maxRecDepth 100000 in
theorem c_X7_clearPattern (l : Launch) (w : GW) (σ : St) (sz : Nat) (hp : pre_X7_clearPattern σ) : Met l yX7_clearPattern (Cond.code yX7_clearPattern cX7_clearPattern 2 (some .int) :: wsL_law) rm_X7_clearPattern (gPc w gSL σ sz [.ref (gad w 80)]) (gQi w gSL sz (post_X7_clearPattern σ)) 0 0 (gA w gSL.length sz) := by
  have hv : V_X7_clearPattern σ (post_X7_clearPattern σ) := v_X7_clearPattern σ hp
  refine g_met (by decide) [.ref (gad w 80)] (Nat.le_of_ble_eq_true rfl) ?_
  intro p e s m below meth c ls hz C0 hl G
  obtain ⟨hx, hb, hr, hml, hown, hts, hlk, hNw, hA⟩ := id C0
  have hown : s.vm.findClass RX7 = some m.cls := hown
  have hl : lv_has ls 2 [(0, .ref (gad w 80))] := hl
  refine lv_aload_n hx hb dX7_clearPattern_0 rfl (lv_at hl 0 rfl) ?_
  refine g_getI hx hb hts hown 4 inlX7 G sh_80 rfl (by decide) rfl wm_251 dX7_clearPattern_1 ?_
  refine lv_istore_n (lv' := [(1, .int (iz (σ 80 4))), (0, .ref (gad w 80))]) hx hb dX7_clearPattern_4 rfl hl (by decide) rfl (fun ls hl => ?_)
  refine lv_aload_n hx hb dX7_clearPattern_5 rfl (lv_at hl 1 rfl) ?_
  refine lv_iconst (v := iz 0) hx hb dX7_clearPattern_6 rfl ?_
  refine g_putI hx hb hts hown 4 inlX7 tyX7 tyX7_ok nmX7 G sh_80 rfl (by decide) rfl wm_251 rfl rfl rfl dX7_clearPattern_7 (fun s1 es1 H locs G => ?_)
  have hv := hv s1 es1
  refine lv_iload_n hx hb dX7_clearPattern_10 rfl (lv_at hl 0 rfl) ?_
  exact g_iret hx hb hr hlk hz G hv dX7_clearPattern_11
abbrev rm_X7_isReference : Room := ({ frames := 1, cells := 0, slots := 0, locals := 22 } : Room)
theorem hd_X7_isReference : yX7_isReference.cls ≠ "java/lang/invoke/MethodHandle" ∧ yX7_isReference.cls ≠ "java/lang/invoke/VarHandle" ∧ (parseMethodDescriptor yX7_isReference.desc).map (fun d => d.parameters.length) = some 1 := ⟨by decide +kernel, by decide +kernel, by decide +kernel⟩
set_option maxHeartbeats 4000000 in
set_option maxRecDepth 100000 in
theorem c_X7_isReference (l : Launch) (w : GW) (σ : St) (sz : Nat) (x0 : Int) (hp : pre_X7_isReference x0 σ) : Met l yX7_isReference (Cond.code yX7_isReference cX7_isReference 1 (some .boolean) :: wsL_law) rm_X7_isReference (gPc w gSL σ sz [.int (iz x0)]) (gQi w gSL sz (post_X7_isReference x0 σ)) 0 0 (gA w gSL.length sz) := by
  have hv : V_X7_isReference x0 σ (post_X7_isReference x0 σ) := v_X7_isReference x0 σ hp
  refine g_met (by decide) [.int (iz x0)] (Nat.le_of_ble_eq_true rfl) ?_
  intro p e s m below meth c ls hz C0 hl G
  obtain ⟨hx, hb, hr, hml, hown, hts, hlk, hNw, hA⟩ := id C0
  have hown : s.vm.findClass RX7 = some m.cls := hown
  have hl : lv_has ls 1 [(0, .int (iz x0))] := hl
  refine lv_iload_n hx hb dX7_isReference_0 rfl (lv_at hl 0 rfl) ?_
  refine lv_bipush (v := iz 65) hx hb dX7_isReference_1 (by decide +kernel) ?_
  refine lv_bipush (v := iz 70) hx hb dX7_isReference_3 (by decide +kernel) ?_
  obtain ⟨p1, hv⟩ := hv
  refine g_callSi (rest := []) hx hb hml hts hown hNw hA G [.int (iz x0), .int (iz 65), .int (iz 70)] (c_X7_in l w σ _ x0 65 70 p1) wm_176 wm_177 wm_5 wm_178 hd_X7_in ⟨rfl, rfl, Nat.le_of_ble_eq_true rfl, Nat.le_of_ble_eq_true rfl⟩ rfl hl.1 (Nat.le_of_ble_eq_true rfl) rfl dX7_isReference_5 ⟨Nat.zero_le _, Nat.zero_le _⟩ (fun r4 s2 H locs h3 G => ?_)
  obtain ⟨er4, es2⟩ := h3
  rw [es2] at G
  have hv := hv r4 er4
  exact g_zret hx hb hr hlk hz G hv.1 hv.2 dX7_isReference_8
