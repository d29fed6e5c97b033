-- three methods of the reference where the class may not have parsed: a refused call
def pr2_X7_matchEnd (x1 x2 : Int) (σ : St) : Prop := inR x1 ∧ inR x2 ∧ (0 ≤ σ 81 0 ∧ σ 81 0 ≤ 100) ∧ ((0 ≤ x1 ∧ x1 < 6 ∧ 0 ≤ x2 ∧ x2 ≤ σ 81 0) → RP σ)
theorem v2_X7_matchEnd (x1 x2 : Int) (σ : St) (hp : pr2_X7_matchEnd x1 x2 σ) : V_X7_matchEnd x1 x2 σ (post_X7_matchEnd x1 x2 σ) := by
  obtain ⟨ir1, ir2, ⟨t0, t1⟩, hR⟩ := hp
  by_cases v : 0 ≤ x1 ∧ x1 < 6 ∧ 0 ≤ x2 ∧ x2 ≤ σ 81 0
  · exact v_X7_matchEnd x1 x2 σ ⟨hR v, ir1, ir2⟩
  refine ⟨ir1, fun r4 e4 => ?_⟩
  have e4 : r4 = if 0 ≤ x1 ∧ x1 < 6 then 1 else 0 := e4
  by_cases a : 0 ≤ x1 ∧ x1 < 6
  · rw [if_pos a] at e4
    refine ⟨by rw [e4]; exact ⟨by decide, by decide⟩, fun z => by omega, fun _ => ⟨⟨ir2, by decide, by exact ⟨by omega, by omega⟩⟩, fun r14 e14 => ?_⟩⟩
    have e14 : r14 = if 0 ≤ x2 ∧ x2 ≤ σ 81 0 then 1 else 0 := e14
    have b : ¬ (0 ≤ x2 ∧ x2 ≤ σ 81 0) := fun b => v ⟨a.1, a.2, b.1, b.2⟩
    rw [if_neg b] at e14
    refine ⟨by rw [e14]; exact ⟨by decide, by decide⟩, fun z => absurd e14 z, fun _ => ⟨⟨by decide, by decide⟩, fun r28 e28 s26 e26 => ⟨fun _ => ⟨e28, e26⟩, fun c => absurd ⟨c.2.2.1, c.2.2.2⟩ b⟩⟩⟩
  · rw [if_neg a] at e4
    exact ⟨by rw [e4]; exact ⟨by decide, by decide⟩, fun _ => ⟨⟨by decide, by decide⟩, fun r10 e10 s8 e8 => ⟨fun _ => ⟨e10, e8⟩, fun c => absurd ⟨c.1, c.2.1⟩ a⟩⟩, fun z => absurd e4 z⟩
def pr2_X7_nodeAt (x1 : Int) (σ : St) : Prop := inR x1 ∧ (0 ≤ σ 81 0 ∧ σ 81 0 ≤ 100) ∧ ((0 ≤ x1 ∧ x1 < σ 81 0) → RP σ)
theorem v2_X7_nodeAt (x1 : Int) (σ : St) (hp : pr2_X7_nodeAt x1 σ) : V_X7_nodeAt x1 σ (post_X7_nodeAt x1 σ) := by
  obtain ⟨i1, ⟨t0, t1⟩, hR⟩ := hp
  by_cases a : 0 ≤ x1 ∧ x1 < σ 81 0
  · exact v_X7_nodeAt x1 σ ⟨hR a, i1⟩
  refine ⟨⟨i1, t0, t1⟩, fun r4 e4 => ?_⟩
  have e4 : r4 = if 0 ≤ x1 ∧ x1 < σ 81 0 then 1 else 0 := e4
  rw [if_neg a] at e4
  exact ⟨by rw [e4]; exact ⟨by decide, by decide⟩, fun z => absurd e4 z, fun _ => ⟨⟨by decide, by decide⟩, fun r45 e45 s43 e43 => ⟨fun _ => ⟨e45, e43⟩, fun c => absurd c a⟩⟩⟩
def pr2_X7_countOf (x1 : Int) (σ : St) : Prop := inR x1 ∧ ((0 ≤ x1 ∧ x1 < 6) → RP σ)
theorem v2_X7_countOf (x1 : Int) (σ : St) (hp : pr2_X7_countOf x1 σ) : V_X7_countOf x1 σ (post_X7_countOf x1 σ) := by
  obtain ⟨i1, hR⟩ := hp
  by_cases a : 0 ≤ x1 ∧ x1 < 6
  · exact v_X7_countOf x1 σ ⟨hR a, i1⟩
  refine ⟨i1, fun r4 e4 => ?_⟩
  have e4 : r4 = if 0 ≤ x1 ∧ x1 < 6 then 1 else 0 := e4
  rw [if_neg a] at e4
  exact ⟨by rw [e4]; exact ⟨by decide, by decide⟩, fun z => absurd e4 z, fun _ => ⟨⟨by decide, by decide⟩, fun r20 e20 s18 e18 => ⟨fun _ => ⟨e20, e18⟩, fun c => absurd c a⟩⟩⟩
set_option maxHeartbeats 4000000 in
set_option maxRecDepth 100000 in
theorem c2_X7_matchEnd (l : Launch) (w : GW) (σ : St) (sz : Nat) (x1 x2 : Int) (hp : pr2_X7_matchEnd x1 x2 σ) : Met l yX7_matchEnd (Cond.code yX7_matchEnd cX7_matchEnd 3 (some .int) :: wsL_law) rm_X7_matchEnd (gPc w gSL σ sz [.ref (gad w 80), .int (iz x1), .int (iz x2)]) (gQi w gSL sz (post_X7_matchEnd x1 x2 σ)) 0 0 (gA w gSL.length sz) := by
  have hv : V_X7_matchEnd x1 x2 σ (post_X7_matchEnd x1 x2 σ) := v2_X7_matchEnd x1 x2 σ hp
  refine g_met (by decide) [.ref (gad w 80), .int (iz x1), .int (iz x2)] (Nat.le_of_ble_eq_true rfl) ?_
  intro p e s m below meth c ls hz C0 hl G
  obtain ⟨hx, hb, hr, hml, hown, hts, hlk, hNw, hA⟩ := id C0
  have hown : s.vm.findClass RX7 = some m.cls := hown
  have hl : lv_has ls 3 [(0, .ref (gad w 80)), (1, .int (iz x1)), (2, .int (iz x2))] := hl
  refine lv_iload_n hx hb dX7_matchEnd_0 rfl (lv_at hl 1 rfl) ?_
  obtain ⟨p1, hv⟩ := hv
  refine g_callSi (rest := []) hx hb hml hts hown hNw hA G [.int (iz x1)] (c_X7_isRule l w σ _ x1 p1) wm_281 wm_282 wm_5 wm_283 hd_X7_isRule ⟨rfl, rfl, Nat.le_of_ble_eq_true rfl, Nat.le_of_ble_eq_true rfl⟩ rfl hl.1 (Nat.le_of_ble_eq_true rfl) rfl dX7_matchEnd_1 ⟨Nat.zero_le _, Nat.zero_le _⟩ (fun r4 s2 H locs h3 G => ?_)
  obtain ⟨er4, es2⟩ := h3
  rw [es2] at G
  have hv := hv r4 er4
  obtain ⟨i5, hv⟩ := hv
  refine g_if_eq (tgt := 21) hx hb i5 dX7_matchEnd_4 (by decide) (fun c6 => ?_) (fun c6 => ?_)
  · have hv := hv.1 c6
    refine lv_aload_n hx hb dX7_matchEnd_21 rfl (lv_at hl 0 rfl) ?_
    refine lv_bipush (v := iz (-2)) hx hb dX7_matchEnd_22 (by decide +kernel) ?_
    obtain ⟨p7, hv⟩ := hv
    refine g_callVi (rest := []) hx hb hml hts hown hNw hA G [.int (iz (-2))] (c_X7_fail l w σ _ (-2) p7) sh_80 rfl wm_182 wm_183 wm_184 wm_5 wm_185 hd_X7_fail ⟨rfl, rfl, Nat.le_of_ble_eq_true rfl, Nat.le_of_ble_eq_true rfl⟩ rfl hl.1 (Nat.le_of_ble_eq_true rfl) rfl dX7_matchEnd_24 ⟨Nat.zero_le _, Nat.zero_le _⟩ (fun r10 s8 H locs h9 G => ?_)
    have hv := hv r10 h9.1 s8 h9.2
    exact g_iret hx hb hr hlk hz G hv dX7_matchEnd_27
  · have hv := hv.2 c6
    refine lv_iload_n hx hb dX7_matchEnd_7 rfl (lv_at hl 2 rfl) ?_
    refine lv_iconst (v := iz 0) hx hb dX7_matchEnd_8 rfl ?_
    refine lv_aload_n hx hb dX7_matchEnd_9 rfl (lv_at hl 0 rfl) ?_
    refine g_getR hx hb hts hown 0 81 inlX7 G sh_80 rfl (by decide) rfl wm_108 dX7_matchEnd_10 ?_
    refine lv_iconst (v := iz 0) hx hb dX7_matchEnd_13 rfl ?_
    refine g_ald hx hb G sh_81 (by decide) (by decide) (by decide) dX7_matchEnd_14 ?_
    obtain ⟨p11, hv⟩ := hv
    refine g_callSi (rest := []) hx hb hml hts hown hNw hA G [.int (iz x2), .int (iz 0), .int (iz (σ 81 0))] (c_X7_in l w σ _ x2 0 (σ 81 0) p11) wm_176 wm_177 wm_5 wm_178 hd_X7_in ⟨rfl, rfl, Nat.le_of_ble_eq_true rfl, Nat.le_of_ble_eq_true rfl⟩ rfl hl.1 (Nat.le_of_ble_eq_true rfl) rfl dX7_matchEnd_15 ⟨Nat.zero_le _, Nat.zero_le _⟩ (fun r14 s12 H locs h13 G => ?_)
    obtain ⟨er14, es12⟩ := h13
    rw [es12] at G
    have hv := hv r14 er14
    obtain ⟨i15, hv⟩ := hv
    refine g_if_ne (tgt := 28) hx hb i15 dX7_matchEnd_18 (by decide) (fun c16 => ?_) (fun c16 => ?_)
    · have hv := hv.1 c16
      refine lv_aload_n hx hb dX7_matchEnd_28 rfl (lv_at hl 0 rfl) ?_
      obtain ⟨p17, hv⟩ := hv
      refine g_callVv (rest := []) hx hb hml hts hown hNw hA G [] (c_X7_findEnds l w σ _ p17) sh_80 rfl wm_446 wm_447 wm_448 wm_5 wm_449 hd_X7_findEnds ⟨rfl, rfl, Nat.le_of_ble_eq_true rfl, Nat.le_of_ble_eq_true rfl⟩ rfl hl.1 (Nat.le_of_ble_eq_true rfl) rfl dX7_matchEnd_29 ⟨Nat.zero_le _, Nat.zero_le _⟩ (fun s18 H locs h19 G => ?_)
      have hv := hv s18 h19
      refine lv_aload_n hx hb dX7_matchEnd_32 rfl (lv_at hl 0 rfl) ?_
      refine g_getR hx hb hts hown 6 85 inlX7 G sh_80 rfl (by decide) rfl wm_112 dX7_matchEnd_33 ?_
      refine lv_iload_n hx hb dX7_matchEnd_36 rfl (lv_at hl 1 rfl) ?_
      refine lv_iconst (v := iz 0) hx hb dX7_matchEnd_37 rfl ?_
      refine lv_iload_n hx hb dX7_matchEnd_38 rfl (lv_at hl 2 rfl) ?_
      obtain ⟨p20, hv⟩ := hv
      refine g_callSi (rest := [.ref (gad w 85)]) hx hb hml hts hown hNw hA G [.int (iz x1), .int (iz 0), .int (iz x2)] (c_X7_cell l w s18 _ x1 0 x2 p20) wm_450 wm_451 wm_5 wm_452 hd_X7_cell ⟨rfl, rfl, Nat.le_of_ble_eq_true rfl, Nat.le_of_ble_eq_true rfl⟩ rfl hl.1 (Nat.le_of_ble_eq_true rfl) rfl dX7_matchEnd_39 ⟨Nat.zero_le _, Nat.zero_le _⟩ (fun r23 s21 H locs h22 G => ?_)
      obtain ⟨er23, es21⟩ := h22
      rw [es21] at G
      have hv := hv r23 er23
      obtain ⟨o24, hv⟩ := hv
      refine g_ald hx hb G sh_85 o24.1 o24.2 (by decide) dX7_matchEnd_42 ?_
      exact g_iret hx hb hr hlk hz G hv dX7_matchEnd_43
    · have hv := hv.2 c16
      refine lv_aload_n hx hb dX7_matchEnd_21 rfl (lv_at hl 0 rfl) ?_
      refine lv_bipush (v := iz (-2)) hx hb dX7_matchEnd_22 (by decide +kernel) ?_
      obtain ⟨p25, hv⟩ := hv
      refine g_callVi (rest := []) hx hb hml hts hown hNw hA G [.int (iz (-2))] (c_X7_fail l w σ _ (-2) p25) sh_80 rfl wm_182 wm_183 wm_184 wm_5 wm_185 hd_X7_fail ⟨rfl, rfl, Nat.le_of_ble_eq_true rfl, Nat.le_of_ble_eq_true rfl⟩ rfl hl.1 (Nat.le_of_ble_eq_true rfl) rfl dX7_matchEnd_24 ⟨Nat.zero_le _, Nat.zero_le _⟩ (fun r28 s26 H locs h27 G => ?_)
      have hv := hv r28 h27.1 s26 h27.2
      exact g_iret hx hb hr hlk hz G hv dX7_matchEnd_27
set_option maxHeartbeats 4000000 in
set_option maxRecDepth 100000 in
theorem c2_X7_nodeAt (l : Launch) (w : GW) (σ : St) (sz : Nat) (x1 : Int) (hp : pr2_X7_nodeAt x1 σ) : Met l yX7_nodeAt (Cond.code yX7_nodeAt cX7_nodeAt 5 (some .int) :: wsL_law) rm_X7_nodeAt (gPc w gSL σ sz [.ref (gad w 80), .int (iz x1)]) (gQi w gSL sz (post_X7_nodeAt x1 σ)) 0 0 (gA w gSL.length sz) := by
  have hv : V_X7_nodeAt x1 σ (post_X7_nodeAt x1 σ) := v2_X7_nodeAt x1 σ hp
  refine g_met (by decide) [.ref (gad w 80), .int (iz x1)] (Nat.le_of_ble_eq_true rfl) ?_
  intro p e s m below meth c ls hz C0 hl G
  obtain ⟨hx, hb, hr, hml, hown, hts, hlk, hNw, hA⟩ := id C0
  have hown : s.vm.findClass RX7 = some m.cls := hown
  have hl : lv_has ls 5 [(0, .ref (gad w 80)), (1, .int (iz x1))] := hl
  refine lv_aload_n hx hb dX7_nodeAt_0 rfl (lv_at hl 0 rfl) ?_
  refine lv_iload_n hx hb dX7_nodeAt_1 rfl (lv_at hl 1 rfl) ?_
  obtain ⟨p1, hv⟩ := hv
  refine g_callVi (rest := []) hx hb hml hts hown hNw hA G [.int (iz x1)] (c_X7_isPosition l w σ _ x1 p1) sh_80 rfl wm_211 wm_212 wm_213 wm_5 wm_214 hd_X7_isPosition ⟨rfl, rfl, Nat.le_of_ble_eq_true rfl, Nat.le_of_ble_eq_true rfl⟩ rfl hl.1 (Nat.le_of_ble_eq_true rfl) rfl dX7_nodeAt_2 ⟨Nat.zero_le _, Nat.zero_le _⟩ (fun r4 s2 H locs h3 G => ?_)
  obtain ⟨er4, es2⟩ := h3
  rw [es2] at G
  have hv := hv r4 er4
  obtain ⟨i5, hv⟩ := hv
  refine g_if_ne (tgt := 15) hx hb i5 dX7_nodeAt_5 (by decide) (fun c6 => ?_) (fun c6 => ?_)
  · have hv := hv.1 c6
    refine lv_aload_n hx hb dX7_nodeAt_15 rfl (lv_at hl 0 rfl) ?_
    obtain ⟨p7, hv⟩ := hv
    refine g_callVv (rest := []) hx hb hml hts hown hNw hA G [] (c_X7_parse l w σ _ p7) sh_80 rfl wm_490 wm_491 wm_492 wm_5 wm_493 hd_X7_parse ⟨rfl, rfl, Nat.le_of_ble_eq_true rfl, Nat.le_of_ble_eq_true rfl⟩ rfl hl.1 (Nat.le_of_ble_eq_true rfl) rfl dX7_nodeAt_16 ⟨Nat.zero_le _, Nat.zero_le _⟩ (fun s8 H locs h9 G => ?_)
    have hv := hv s8 h9
    refine lv_iconst (v := iz (-1)) hx hb dX7_nodeAt_19 rfl ?_
    refine lv_istore_n (lv' := [(2, .int (iz (-1))), (0, .ref (gad w 80)), (1, .int (iz x1))]) hx hb dX7_nodeAt_20 rfl hl (by decide) rfl (fun ls hl => ?_)
    refine lv_iconst (v := iz 0) hx hb dX7_nodeAt_21 rfl ?_
    refine lv_istore_n (lv' := [(3, .int (iz 0)), (2, .int (iz (-1))), (0, .ref (gad w 80)), (1, .int (iz x1))]) hx hb dX7_nodeAt_22 rfl hl (by decide) rfl (fun ls hl => ?_)
    obtain ⟨n_, hv⟩ := hv
    exact lw_X7_nodeAt_23 (l := l) (p := p) (e := e) hz C0 _ x1 n_ _ _ _ _ _ _ hv G (lv_sub hl [2, 3, 1, 0] rfl)
  · have hv := hv.2 c6
    refine lv_aload_n hx hb dX7_nodeAt_8 rfl (lv_at hl 0 rfl) ?_
    refine lv_bipush (v := iz (-2)) hx hb dX7_nodeAt_9 (by decide +kernel) ?_
    obtain ⟨p42, hv⟩ := hv
    refine g_callVi (rest := []) hx hb hml hts hown hNw hA G [.int (iz (-2))] (c_X7_fail l w σ _ (-2) p42) sh_80 rfl wm_182 wm_183 wm_184 wm_5 wm_185 hd_X7_fail ⟨rfl, rfl, Nat.le_of_ble_eq_true rfl, Nat.le_of_ble_eq_true rfl⟩ rfl hl.1 (Nat.le_of_ble_eq_true rfl) rfl dX7_nodeAt_11 ⟨Nat.zero_le _, Nat.zero_le _⟩ (fun r45 s43 H locs h44 G => ?_)
    have hv := hv r45 h44.1 s43 h44.2
    exact g_iret hx hb hr hlk hz G hv dX7_nodeAt_14
set_option maxHeartbeats 4000000 in
set_option maxRecDepth 100000 in
theorem c2_X7_countOf (l : Launch) (w : GW) (σ : St) (sz : Nat) (x1 : Int) (hp : pr2_X7_countOf x1 σ) : Met l yX7_countOf (Cond.code yX7_countOf cX7_countOf 4 (some .int) :: wsL_law) rm_X7_countOf (gPc w gSL σ sz [.ref (gad w 80), .int (iz x1)]) (gQi w gSL sz (post_X7_countOf x1 σ)) 0 0 (gA w gSL.length sz) := by
  have hv : V_X7_countOf x1 σ (post_X7_countOf x1 σ) := v2_X7_countOf x1 σ hp
  refine g_met (by decide) [.ref (gad w 80), .int (iz x1)] (Nat.le_of_ble_eq_true rfl) ?_
  intro p e s m below meth c ls hz C0 hl G
  obtain ⟨hx, hb, hr, hml, hown, hts, hlk, hNw, hA⟩ := id C0
  have hown : s.vm.findClass RX7 = some m.cls := hown
  have hl : lv_has ls 4 [(0, .ref (gad w 80)), (1, .int (iz x1))] := hl
  refine lv_iload_n hx hb dX7_countOf_0 rfl (lv_at hl 1 rfl) ?_
  obtain ⟨p1, hv⟩ := hv
  refine g_callSi (rest := []) hx hb hml hts hown hNw hA G [.int (iz x1)] (c_X7_isRule l w σ _ x1 p1) wm_281 wm_282 wm_5 wm_283 hd_X7_isRule ⟨rfl, rfl, Nat.le_of_ble_eq_true rfl, Nat.le_of_ble_eq_true rfl⟩ rfl hl.1 (Nat.le_of_ble_eq_true rfl) rfl dX7_countOf_1 ⟨Nat.zero_le _, Nat.zero_le _⟩ (fun r4 s2 H locs h3 G => ?_)
  obtain ⟨er4, es2⟩ := h3
  rw [es2] at G
  have hv := hv r4 er4
  obtain ⟨i5, hv⟩ := hv
  refine g_if_ne (tgt := 14) hx hb i5 dX7_countOf_4 (by decide) (fun c6 => ?_) (fun c6 => ?_)
  · have hv := hv.1 c6
    refine lv_aload_n hx hb dX7_countOf_14 rfl (lv_at hl 0 rfl) ?_
    obtain ⟨p7, hv⟩ := hv
    refine g_callVv (rest := []) hx hb hml hts hown hNw hA G [] (c_X7_parse l w σ _ p7) sh_80 rfl wm_490 wm_491 wm_492 wm_5 wm_493 hd_X7_parse ⟨rfl, rfl, Nat.le_of_ble_eq_true rfl, Nat.le_of_ble_eq_true rfl⟩ rfl hl.1 (Nat.le_of_ble_eq_true rfl) rfl dX7_countOf_15 ⟨Nat.zero_le _, Nat.zero_le _⟩ (fun s8 H locs h9 G => ?_)
    have hv := hv s8 h9
    refine lv_iconst (v := iz 0) hx hb dX7_countOf_18 rfl ?_
    refine lv_istore_n (lv' := [(2, .int (iz 0)), (0, .ref (gad w 80)), (1, .int (iz x1))]) hx hb dX7_countOf_19 rfl hl (by decide) rfl (fun ls hl => ?_)
    refine lv_iconst (v := iz 0) hx hb dX7_countOf_20 rfl ?_
    refine lv_istore_n (lv' := [(3, .int (iz 0)), (2, .int (iz 0)), (0, .ref (gad w 80)), (1, .int (iz x1))]) hx hb dX7_countOf_21 rfl hl (by decide) rfl (fun ls hl => ?_)
    obtain ⟨n_, hv⟩ := hv
    exact lw_X7_countOf_22 (l := l) (p := p) (e := e) hz C0 _ x1 n_ _ _ _ _ _ _ hv G (lv_sub hl [2, 3, 1, 0] rfl)
  · have hv := hv.2 c6
    refine lv_aload_n hx hb dX7_countOf_7 rfl (lv_at hl 0 rfl) ?_
    refine lv_bipush (v := iz (-2)) hx hb dX7_countOf_8 (by decide +kernel) ?_
    obtain ⟨p17, hv⟩ := hv
    refine g_callVi (rest := []) hx hb hml hts hown hNw hA G [.int (iz (-2))] (c_X7_fail l w σ _ (-2) p17) sh_80 rfl wm_182 wm_183 wm_184 wm_5 wm_185 hd_X7_fail ⟨rfl, rfl, Nat.le_of_ble_eq_true rfl, Nat.le_of_ble_eq_true rfl⟩ rfl hl.1 (Nat.le_of_ble_eq_true rfl) rfl dX7_countOf_10 ⟨Nat.zero_le _, Nat.zero_le _⟩ (fun r20 s18 H locs h19 G => ?_)
    have hv := hv r20 h19.1 s18 h19.2
    exact g_iret hx hb hr hlk hz G hv dX7_countOf_13
