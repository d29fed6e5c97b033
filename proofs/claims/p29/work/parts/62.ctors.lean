theorem gD4 : ∀ j, ([2, 2, 2, 2] : List Nat).getD j 2 = 2 := fun j => by
  match j with
  | 0 => rfl
  | 1 => rfl
  | 2 => rfl
  | 3 => rfl
  | j + 4 => rfl
def isRowL (SL : List Sh) (k n : Nat) : Prop := SL[k]? = some (1, 4, [k + 1 + 3]) ∧ SL[k + 1]? = some (0, n, [])
set_option maxHeartbeats 4000000 in
set_option maxRecDepth 100000 in
theorem lwS_X4_fill_2 (SL : List Sh) {p : Program} {l : Launch} {e : Env} {s : State} {m : MethodId} {args : Array Value} {below : List Frame} {meth : Method} {c : Code} {w : GW} {sz : Nat} (k nn : Nat) (hik : isRowL SL k nn) (hn9 : nn < 2147483648) (hz : s.heap.size = sz) (C0 : gC p s m args meth c cX4_fill none 3 yX4_fill.cls (gA w SL.length sz)) (Q : St → Prop) (y1 : Int) : ∀ (n : Nat) (y2 : Int) (σ : St) (H : Heap) (locs : List Loc) (ls : Array Slot), L_X4_fill_2 k nn Q y1 n y2 σ → gS w SL σ (gA w SL.length sz) s s.heap H locs → lv_has ls 3 [(0, .ref (gad w k)), (1, .int (iz y1)), (2, .int (iz y2))] → W p l e rm_X4_fill s m args below meth c H locs 0 0 (MQ below (gQv w SL sz Q) args s 0 0 (gA w SL.length sz)) (F0 m 2 ls []) := by
  obtain ⟨hx, hb, hr, hml, hown, hts, hlk, hNw, hA⟩ := id C0
  have hown : s.vm.findClass RX4 = some m.cls := hown
  intro n
  induction n with
  | zero => intro y2 σ H locs ls hv; exact hv.elim
  | succ n ih =>
    intro y2 σ H locs ls hv G hl
    refine lv_iload_n hx hb dX4_fill_2 rfl (lv_at hl 2 rfl) ?_
    refine lv_aload_n hx hb dX4_fill_3 rfl (lv_at hl 0 rfl) ?_
    refine g_getR hx hb hts hown 0 (k+1) inlX4 G hik.1 rfl (by decide) rfl wm_50 dX4_fill_4 ?_
    refine g_alen hx hb G hik.2 dX4_fill_7 ?_
    obtain ⟨i1, hv⟩ := hv
    obtain ⟨i2, hv⟩ := hv
    refine g_icmp_ge (tgt := 24) hx hb i1 i2 dX4_fill_8 (by decide) (fun c3 => ?_) (fun c3 => ?_)
    · have hv := hv.1 c3
      exact g_vret hx hb hr hlk hz G hv dX4_fill_24
    · have hv := hv.2 c3
      refine lv_aload_n hx hb dX4_fill_11 rfl (lv_at hl 0 rfl) ?_
      refine g_getR hx hb hts hown 0 (k+1) inlX4 G hik.1 rfl (by decide) rfl wm_50 dX4_fill_12 ?_
      refine lv_iload_n hx hb dX4_fill_15 rfl (lv_at hl 2 rfl) ?_
      refine lv_iload_n hx hb dX4_fill_16 rfl (lv_at hl 1 rfl) ?_
      obtain ⟨o4, hv⟩ := hv
      refine g_ast hx hb G hik.2 o4.1 o4.2 hn9 dX4_fill_17 (fun s5 es5 H locs G => ?_)
      have hv := hv s5 es5
      refine g_iinc (k := 2) (x := y2) (n := 1) (lv' := [(2, .int (iz (y2 + 1))), (0, .ref (gad w k)), (1, .int (iz y1))]) hx hb dX4_fill_18 hl rfl (by decide) rfl (fun ls hl => ?_)
      refine lv_goto (tgt := 2) hx hb dX4_fill_21 (by decide) ?_
      exact ih _ _ _ _ _ hv G (lv_sub hl [1, 2, 0] rfl)
theorem lS_X4_fill (k nn : Nat) (hn9 : nn < 2147483648) (v : Int) (Q : St → Prop) (σ : St) (hQ : Q (ur σ (k + 1) (fun j => if 0 ≤ j ∧ j < (nn : Int) then v else σ (k + 1) j))) : ∀ (d : Nat) (i : Int) (s : St), 0 ≤ i → i + d = nn → s = ur σ (k + 1) (fun j => if 0 ≤ j ∧ j < i then v else σ (k + 1) j) → ∃ n, L_X4_fill_2 k nn Q v n i s := by
  have h1 := hn9
  intro d
  induction d with
  | zero =>
    intro i s h0 hi hs
    refine ⟨1, ⟨by omega, by omega⟩, ⟨by omega, by omega⟩, fun _ => ?_, fun h => absurd (by omega) h⟩
    rw [hs, show i = (nn : Int) by omega]
    exact hQ
  | succ d ih =>
    intro i s h0 hi hs
    have e : up s (k + 1) i v = ur σ (k + 1) (fun j => if 0 ≤ j ∧ j < i + 1 then v else σ (k + 1) j) := by
      rw [hs, up_ur]
      refine ur_congr (fun j => ?_)
      unfold ui
      dsimp only
      by_cases hj : j = i
      · subst hj
        rw [if_pos rfl, if_pos (by omega)]
      · rw [if_neg hj]
        split <;> split <;> first | rfl | (exfalso; omega)
    obtain ⟨n, hn⟩ := ih (i + 1) _ (by omega) (by omega) e
    exact ⟨n + 1, ⟨by omega, by omega⟩, ⟨by omega, by omega⟩, fun h => absurd h (by omega), fun _ => ⟨⟨h0, by omega⟩, fun s9 e9 => by rw [e9]; exact hn⟩⟩
theorem vS_X4_fill (k nn : Nat) (hn9 : nn < 2147483648) (x1 : Int) (σ : St) (hp : pre_X4_fill k nn x1 σ) : V_X4_fill k nn x1 σ (post_X4_fill k nn x1 σ) := by
  refine lS_X4_fill k nn hn9 x1 (post_X4_fill k nn x1 σ) σ rfl nn 0 σ (by omega) (by omega) ?_
  refine (ur_id (fun j => ?_)).symm
  rw [if_neg (by omega)]
set_option maxHeartbeats 4000000 in
set_option maxRecDepth 100000 in
theorem cS_X4_fill (SL : List Sh) (l : Launch) (w : GW) (σ : St) (sz : Nat) (k nn : Nat) (hik : isRowL SL k nn) (hn9 : nn < 2147483648) (x1 : Int) (hp : pre_X4_fill k nn x1 σ) : Met l yX4_fill (Cond.code yX4_fill cX4_fill 3 none :: wsL_law) rm_X4_fill (gPc w SL σ sz [.ref (gad w k), .int (iz x1)]) (gQv w SL sz (post_X4_fill k nn x1 σ)) 0 0 (gA w SL.length sz) := by
  have hv : V_X4_fill k nn x1 σ (post_X4_fill k nn x1 σ) := vS_X4_fill k nn hn9 x1 σ hp
  refine g_met (by decide) [.ref (gad w k), .int (iz x1)] (Nat.le_of_ble_eq_true rfl) ?_
  intro p e s m below meth c ls hz C0 hl G
  obtain ⟨hx, hb, hr, hml, hown, hts, hlk, hNw, hA⟩ := id C0
  have hown : s.vm.findClass RX4 = some m.cls := hown
  have hl : lv_has ls 3 [(0, .ref (gad w k)), (1, .int (iz x1))] := hl
  refine lv_iconst (v := iz 0) hx hb dX4_fill_0 rfl ?_
  refine lv_istore_n (lv' := [(2, .int (iz 0)), (0, .ref (gad w k)), (1, .int (iz x1))]) hx hb dX4_fill_1 rfl hl (by decide) rfl (fun ls hl => ?_)
  obtain ⟨n_, hv⟩ := hv
  exact lwS_X4_fill_2 SL (l := l) (p := p) (e := e) k nn hik hn9 hz C0 _ x1 n_ _ _ _ _ _ hv G (lv_sub hl [1, 2, 0] rfl)
set_option maxHeartbeats 4000000 in
set_option maxRecDepth 100000 in
theorem c4_init (l : Launch) (w : GW) (g0 : Nat → Nat) (σ : St) (sz : Nat) (k nn n x : Nat) (a : g0 k = x) {SL SL' : List Sh} (hsh : SL[k]? = some (1, 4, [2])) (hrf : rfOK SL = true) (hn : SL.length = n) (hnn : 0 < nn ∧ nn < 100000) {i : Int} (hi : i = (nn : Int)) (hSL : (SL ++ [(0, nn, [])]).set k (1, 4, [n + 3]) = SL') : Met l yX4_init (Cond.code yX4_init cX4_init 2 none :: wsL_law) ({ frames := 1, cells := 1, slots := nn, locals := 12 } : Room) (gPcC (gw w g0) SL σ sz [.ref x, .int (iz i)]) (gQc w g0 SL.length sz SL' (ur σ n (fun _ => 0))) 1 nn (gA (gw w g0) SL.length sz) := by
  refine g_metC (by decide) [.ref x, .int (iz i)] (Nat.le_of_ble_eq_true rfl) ?_
  intro p e s m below meth c ls hz C0 hin hao hl G
  obtain ⟨hx, hb, hr, hml, hown, hts, hlk, hNw, hA⟩ := id C0
  have hown : s.vm.findClass RX4 = some m.cls := hown
  have hl : lv_has ls 2 [(0, .ref x), (1, .int (iz i))] := hl
  have ir : inR i := ⟨by omega, by omega⟩
  have hkl : k < SL.length := (List.getElem?_eq_some_iff.mp hsh).1
  refine lv_aload_n hx hb dX4_init_0 rfl (lv_at hl 0 rfl) ?_
  refine g_objI hx hb hml hts hown wm_48 wm_10 wm_11 hl.1 (by exact Nat.le_refl 12) (by exact Nat.le_refl 1) dX4_init_1 ?_
  refine lv_aload_n hx hb dX4_init_4 rfl (lv_at hl 0 rfl) ?_
  refine lv_iload_n hx hb dX4_init_5 rfl (lv_at hl 1 rfl) ?_
  refine g_if_le (tgt := 13) hx hb ir dX4_init_6 (by decide) (fun q => absurd q (by omega)) (fun _ => ?_)
  refine lv_iload_n hx hb dX4_init_9 rfl (lv_at hl 1 rfl) ?_
  refine lv_goto (tgt := 14) hx hb dX4_init_10 (by decide) ?_
  refine g_newI (n := n) (SL' := SL ++ [(0, nn, [])]) hx hb hts G hA hn hrf wm_49 nn hi hnn.2 (Nat.le_refl 1) (by show 0 + nn ≤ nn; omega) dX4_init_14 rfl (fun g y H b hg G => ?_)
  have a := (hg k (by omega)).trans a
  refine g_putF (k := k) (ci := 4) (cs := [2]) hx hb hts hown 0 n inlX4 tyX4 tyX4_ok nmX4 G (by rw [List.getElem?_append_left hkl]; exact hsh) rfl (by decide) (by decide) wm_50 rfl hin rfl rfl rfl dX4_init_16 a b hSL (fun H locs G => ?_)
  exact g_cret (n0 := n) hx hb hr hlk hn hz hg G (Nat.le_refl 1) (by omega) dX4_init_19
def WL0 : List Sh := [(1, 6, [2, 2, 2, 2, 2, 2, 0, 0])]
def WL1 : List Sh := [(1, 6, [2, 2, 2, 2, 2, 2, 0, 0]), (1, 5, [2, 2, 2, 2, 0])]
def WL2 : List Sh := [(1, 6, [2, 2, 2, 2, 2, 2, 0, 0]), (1, 5, [2, 2, 2, 2, 0]), (1, 4, [2])]
def WL3 : List Sh := [(1, 6, [2, 2, 2, 2, 2, 2, 0, 0]), (1, 5, [2, 2, 2, 2, 0]), (1, 4, [6]), (0, 100, [])]
def WL4 : List Sh := [(1, 6, [2, 2, 2, 2, 2, 2, 0, 0]), (1, 5, [5, 2, 2, 2, 0]), (1, 4, [6]), (0, 100, [])]
def WL5 : List Sh := [(1, 6, [2, 2, 2, 2, 2, 2, 0, 0]), (1, 5, [5, 2, 2, 2, 0]), (1, 4, [6]), (0, 100, []), (1, 4, [2])]
def WL6 : List Sh := [(1, 6, [2, 2, 2, 2, 2, 2, 0, 0]), (1, 5, [5, 2, 2, 2, 0]), (1, 4, [6]), (0, 100, []), (1, 4, [8]), (0, 6, [])]
def WL7 : List Sh := [(1, 6, [2, 2, 2, 2, 2, 2, 0, 0]), (1, 5, [5, 7, 2, 2, 0]), (1, 4, [6]), (0, 100, []), (1, 4, [8]), (0, 6, [])]
def WL8 : List Sh := [(1, 6, [2, 2, 2, 2, 2, 2, 0, 0]), (1, 5, [5, 7, 2, 2, 0]), (1, 4, [6]), (0, 100, []), (1, 4, [8]), (0, 6, []), (1, 4, [2])]
def WL9 : List Sh := [(1, 6, [2, 2, 2, 2, 2, 2, 0, 0]), (1, 5, [5, 7, 2, 2, 0]), (1, 4, [6]), (0, 100, []), (1, 4, [8]), (0, 6, []), (1, 4, [10]), (0, 48, [])]
def WL10 : List Sh := [(1, 6, [2, 2, 2, 2, 2, 2, 0, 0]), (1, 5, [5, 7, 9, 2, 0]), (1, 4, [6]), (0, 100, []), (1, 4, [8]), (0, 6, []), (1, 4, [10]), (0, 48, [])]
def WL11 : List Sh := [(1, 6, [2, 2, 2, 2, 2, 2, 0, 0]), (1, 5, [5, 7, 9, 2, 0]), (1, 4, [6]), (0, 100, []), (1, 4, [8]), (0, 6, []), (1, 4, [10]), (0, 48, []), (1, 4, [2])]
def WL12 : List Sh := [(1, 6, [2, 2, 2, 2, 2, 2, 0, 0]), (1, 5, [5, 7, 9, 2, 0]), (1, 4, [6]), (0, 100, []), (1, 4, [8]), (0, 6, []), (1, 4, [10]), (0, 48, []), (1, 4, [12]), (0, 6, [])]
def WL13 : List Sh := [(1, 6, [2, 2, 2, 2, 2, 2, 0, 0]), (1, 5, [5, 7, 9, 11, 0]), (1, 4, [6]), (0, 100, []), (1, 4, [8]), (0, 6, []), (1, 4, [10]), (0, 48, []), (1, 4, [12]), (0, 6, [])]
def sg_State_1 (σ : St) : St := (eff_X4_fill 8 6 (-1) (up (ur (ur (ur (ur (ur (ur (ur (ur σ 2 (fun _ => 0)) 3 (fun _ => 0)) 4 (fun _ => 0)) 5 (fun _ => 0)) 6 (fun _ => 0)) 7 (fun _ => 0)) 8 (fun _ => 0)) 9 (fun _ => 0)) 1 4 0))
abbrev rc_State_1 : Room := ({ frames := 2, cells := 8, slots := 164, locals := 33 } : Room)
set_option maxHeartbeats 4000000 in
set_option maxRecDepth 100000 in
theorem cc_State_1 (l : Launch) (w : GW) (g0 : Nat → Nat) (σ : St) (sz : Nat) (x1 : Nat) (a1 : g0 1 = x1) : Met l yX5_init (Cond.code yX5_init cX5_init 1 none :: wsL_law) rc_State_1 (gPcC (gw w g0) WL1 σ sz [.ref x1]) (gQc w g0 WL1.length sz WL13 (sg_State_1 σ)) 8 164 (gA (gw w g0) WL1.length sz) := by
  refine g_metC (by decide) [.ref x1] (Nat.le_of_ble_eq_true rfl) ?_
  intro p e s m below meth c ls hz C0 hin hao hl G
  obtain ⟨hx, hb, hr, hml, hown, hts, hlk, hNw, hA⟩ := id C0
  have hown : s.vm.findClass RX5 = some m.cls := hown
  have hl : lv_has ls 1 [(0, .ref x1)] := hl
  have E : ∀ k, k < 2 → g0 k = g0 k := fun _ _ => rfl
  refine lv_aload_n hx hb dX5_init_0 rfl (lv_at hl 0 rfl) ?_
  refine g_objI hx hb hml hts hown wm_38 wm_10 wm_11 hl.1 (Nat.le_of_ble_eq_true rfl) (Nat.le_of_ble_eq_true rfl) dX5_init_1 ?_
  refine lv_aload_n hx hb dX5_init_4 rfl (lv_at hl 0 rfl) ?_
  refine g_newO (n := 2) (ci := 4) (C := RX4) (T := TX4) (N := 1) hx hb hts hown [2] inlX4 tyX4 tyX4_ok G hA rfl (by decide +kernel) rfl (fun j hj => by rcases (show j = 0 by omega) with rfl <;> rfl) (by decide) wm_39 wm_21 wm_22 (Nat.le_of_ble_eq_true rfl) (Nat.le_of_ble_eq_true rfl) dX5_init_5 (show _ = WL2 from rfl) (fun g x2 H a2 hg G => ?_)
  have a1 := (hg 1 (Nat.le_of_ble_eq_true rfl)).trans a1
  have E : ∀ k, k < 2 → g k = g0 k := fun k hk => (hg k (Nat.lt_of_lt_of_le hk (Nat.le_of_ble_eq_true rfl))).trans (E k hk)
  refine W.widen (k := 1) (n := 1) (Nat.le_of_ble_eq_true rfl) (Nat.le_of_ble_eq_true rfl) ?_
  refine lv_dup hx hb dX5_init_8 rfl ?_
  refine lv_bipush (v := iz 100) hx hb dX5_init_9 (by decide +kernel) ?_
  refine g_callC (n := 1) (rest := [.ref x2, .ref x1]) (n0 := 3) hx hb hml hts hown hNw hao hA G [.int (iz 100)] (c4_init l w _ _ _ 2 100 3 x2 a2 rfl (by decide +kernel) rfl (by decide) (i := 100) rfl (show _ = WL3 from rfl)) rfl wm_45 wm_46 wm_22 wm_47 rfl ⟨by decide +kernel, by decide +kernel, by decide +kernel⟩ ⟨rfl, rfl, (Nat.le_of_ble_eq_true rfl), (Nat.le_of_ble_eq_true rfl)⟩ rfl hl.1 (Nat.le_of_ble_eq_true rfl) rfl dX5_init_11 ⟨(Nat.le_of_ble_eq_true rfl), (Nat.le_of_ble_eq_true rfl)⟩ (fun g H locs hg G => ?_)
  have a1 := (hg 1 (Nat.le_of_ble_eq_true rfl)).trans a1
  have a2 := (hg 2 (Nat.le_of_ble_eq_true rfl)).trans a2
  have E : ∀ k, k < 2 → g k = g0 k := fun k hk => (hg k (Nat.lt_of_lt_of_le hk (Nat.le_of_ble_eq_true rfl))).trans (E k hk)
  refine W.widen (k := 2) (n := 101) (Nat.le_of_ble_eq_true rfl) (Nat.le_of_ble_eq_true rfl) ?_
  refine g_putF (k := 1) (ci := 5) (cs := [2, 2, 2, 2, 0]) hx hb hts hown 0 2 inlX5 tyX5 tyX5_ok nmX5 G rfl rfl (by decide) (by decide) wm_40 rfl hin rfl rfl rfl dX5_init_14 a1 a2 (show _ = WL4 from rfl) (fun H locs G => ?_)
  refine lv_aload_n hx hb dX5_init_17 rfl (lv_at hl 0 rfl) ?_
  refine g_newO (n := 4) (ci := 4) (C := RX4) (T := TX4) (N := 1) hx hb hts hown [2] inlX4 tyX4 tyX4_ok G hA rfl (by decide +kernel) rfl (fun j hj => by rcases (show j = 0 by omega) with rfl <;> rfl) (by decide) wm_39 wm_21 wm_22 (Nat.le_of_ble_eq_true rfl) (Nat.le_of_ble_eq_true rfl) dX5_init_18 (show _ = WL5 from rfl) (fun g x4 H a4 hg G => ?_)
  have a1 := (hg 1 (Nat.le_of_ble_eq_true rfl)).trans a1
  have a2 := (hg 2 (Nat.le_of_ble_eq_true rfl)).trans a2
  have E : ∀ k, k < 2 → g k = g0 k := fun k hk => (hg k (Nat.lt_of_lt_of_le hk (Nat.le_of_ble_eq_true rfl))).trans (E k hk)
  refine W.widen (k := 3) (n := 102) (Nat.le_of_ble_eq_true rfl) (Nat.le_of_ble_eq_true rfl) ?_
  refine lv_dup hx hb dX5_init_21 rfl ?_
  refine lv_bipush (v := iz 6) hx hb dX5_init_22 (by decide +kernel) ?_
  refine g_callC (n := 1) (rest := [.ref x4, .ref x1]) (n0 := 5) hx hb hml hts hown hNw hao hA G [.int (iz 6)] (c4_init l w _ _ _ 4 6 5 x4 a4 rfl (by decide +kernel) rfl (by decide) (i := 6) rfl (show _ = WL6 from rfl)) rfl wm_45 wm_46 wm_22 wm_47 rfl ⟨by decide +kernel, by decide +kernel, by decide +kernel⟩ ⟨rfl, rfl, (Nat.le_of_ble_eq_true rfl), (Nat.le_of_ble_eq_true rfl)⟩ rfl hl.1 (Nat.le_of_ble_eq_true rfl) rfl dX5_init_24 ⟨(Nat.le_of_ble_eq_true rfl), (Nat.le_of_ble_eq_true rfl)⟩ (fun g H locs hg G => ?_)
  have a1 := (hg 1 (Nat.le_of_ble_eq_true rfl)).trans a1
  have a2 := (hg 2 (Nat.le_of_ble_eq_true rfl)).trans a2
  have a4 := (hg 4 (Nat.le_of_ble_eq_true rfl)).trans a4
  have E : ∀ k, k < 2 → g k = g0 k := fun k hk => (hg k (Nat.lt_of_lt_of_le hk (Nat.le_of_ble_eq_true rfl))).trans (E k hk)
  refine W.widen (k := 4) (n := 108) (Nat.le_of_ble_eq_true rfl) (Nat.le_of_ble_eq_true rfl) ?_
  refine g_putF (k := 1) (ci := 5) (cs := [5, 2, 2, 2, 0]) hx hb hts hown 1 4 inlX5 tyX5 tyX5_ok nmX5 G rfl rfl (by decide) (by decide) wm_41 rfl hin rfl rfl rfl dX5_init_27 a1 a4 (show _ = WL7 from rfl) (fun H locs G => ?_)
  refine lv_aload_n hx hb dX5_init_30 rfl (lv_at hl 0 rfl) ?_
  refine g_newO (n := 6) (ci := 4) (C := RX4) (T := TX4) (N := 1) hx hb hts hown [2] inlX4 tyX4 tyX4_ok G hA rfl (by decide +kernel) rfl (fun j hj => by rcases (show j = 0 by omega) with rfl <;> rfl) (by decide) wm_39 wm_21 wm_22 (Nat.le_of_ble_eq_true rfl) (Nat.le_of_ble_eq_true rfl) dX5_init_31 (show _ = WL8 from rfl) (fun g x6 H a6 hg G => ?_)
  have a1 := (hg 1 (Nat.le_of_ble_eq_true rfl)).trans a1
  have a2 := (hg 2 (Nat.le_of_ble_eq_true rfl)).trans a2
  have a4 := (hg 4 (Nat.le_of_ble_eq_true rfl)).trans a4
  have E : ∀ k, k < 2 → g k = g0 k := fun k hk => (hg k (Nat.lt_of_lt_of_le hk (Nat.le_of_ble_eq_true rfl))).trans (E k hk)
  refine W.widen (k := 5) (n := 109) (Nat.le_of_ble_eq_true rfl) (Nat.le_of_ble_eq_true rfl) ?_
  refine lv_dup hx hb dX5_init_34 rfl ?_
  refine lv_bipush (v := iz 48) hx hb dX5_init_35 (by decide +kernel) ?_
  refine g_callC (n := 1) (rest := [.ref x6, .ref x1]) (n0 := 7) hx hb hml hts hown hNw hao hA G [.int (iz 48)] (c4_init l w _ _ _ 6 48 7 x6 a6 rfl (by decide +kernel) rfl (by decide) (i := 48) rfl (show _ = WL9 from rfl)) rfl wm_45 wm_46 wm_22 wm_47 rfl ⟨by decide +kernel, by decide +kernel, by decide +kernel⟩ ⟨rfl, rfl, (Nat.le_of_ble_eq_true rfl), (Nat.le_of_ble_eq_true rfl)⟩ rfl hl.1 (Nat.le_of_ble_eq_true rfl) rfl dX5_init_37 ⟨(Nat.le_of_ble_eq_true rfl), (Nat.le_of_ble_eq_true rfl)⟩ (fun g H locs hg G => ?_)
  have a1 := (hg 1 (Nat.le_of_ble_eq_true rfl)).trans a1
  have a2 := (hg 2 (Nat.le_of_ble_eq_true rfl)).trans a2
  have a4 := (hg 4 (Nat.le_of_ble_eq_true rfl)).trans a4
  have a6 := (hg 6 (Nat.le_of_ble_eq_true rfl)).trans a6
  have E : ∀ k, k < 2 → g k = g0 k := fun k hk => (hg k (Nat.lt_of_lt_of_le hk (Nat.le_of_ble_eq_true rfl))).trans (E k hk)
  refine W.widen (k := 6) (n := 157) (Nat.le_of_ble_eq_true rfl) (Nat.le_of_ble_eq_true rfl) ?_
  refine g_putF (k := 1) (ci := 5) (cs := [5, 7, 2, 2, 0]) hx hb hts hown 2 6 inlX5 tyX5 tyX5_ok nmX5 G rfl rfl (by decide) (by decide) wm_42 rfl hin rfl rfl rfl dX5_init_40 a1 a6 (show _ = WL10 from rfl) (fun H locs G => ?_)
  refine lv_aload_n hx hb dX5_init_43 rfl (lv_at hl 0 rfl) ?_
  refine g_newO (n := 8) (ci := 4) (C := RX4) (T := TX4) (N := 1) hx hb hts hown [2] inlX4 tyX4 tyX4_ok G hA rfl (by decide +kernel) rfl (fun j hj => by rcases (show j = 0 by omega) with rfl <;> rfl) (by decide) wm_39 wm_21 wm_22 (Nat.le_of_ble_eq_true rfl) (Nat.le_of_ble_eq_true rfl) dX5_init_44 (show _ = WL11 from rfl) (fun g x8 H a8 hg G => ?_)
  have a1 := (hg 1 (Nat.le_of_ble_eq_true rfl)).trans a1
  have a2 := (hg 2 (Nat.le_of_ble_eq_true rfl)).trans a2
  have a4 := (hg 4 (Nat.le_of_ble_eq_true rfl)).trans a4
  have a6 := (hg 6 (Nat.le_of_ble_eq_true rfl)).trans a6
  have E : ∀ k, k < 2 → g k = g0 k := fun k hk => (hg k (Nat.lt_of_lt_of_le hk (Nat.le_of_ble_eq_true rfl))).trans (E k hk)
  refine W.widen (k := 7) (n := 158) (Nat.le_of_ble_eq_true rfl) (Nat.le_of_ble_eq_true rfl) ?_
  refine lv_dup hx hb dX5_init_47 rfl ?_
  refine lv_bipush (v := iz 6) hx hb dX5_init_48 (by decide +kernel) ?_
  refine g_callC (n := 1) (rest := [.ref x8, .ref x1]) (n0 := 9) hx hb hml hts hown hNw hao hA G [.int (iz 6)] (c4_init l w _ _ _ 8 6 9 x8 a8 rfl (by decide +kernel) rfl (by decide) (i := 6) rfl (show _ = WL12 from rfl)) rfl wm_45 wm_46 wm_22 wm_47 rfl ⟨by decide +kernel, by decide +kernel, by decide +kernel⟩ ⟨rfl, rfl, (Nat.le_of_ble_eq_true rfl), (Nat.le_of_ble_eq_true rfl)⟩ rfl hl.1 (Nat.le_of_ble_eq_true rfl) rfl dX5_init_50 ⟨(Nat.le_of_ble_eq_true rfl), (Nat.le_of_ble_eq_true rfl)⟩ (fun g H locs hg G => ?_)
  have a1 := (hg 1 (Nat.le_of_ble_eq_true rfl)).trans a1
  have a2 := (hg 2 (Nat.le_of_ble_eq_true rfl)).trans a2
  have a4 := (hg 4 (Nat.le_of_ble_eq_true rfl)).trans a4
  have a6 := (hg 6 (Nat.le_of_ble_eq_true rfl)).trans a6
  have a8 := (hg 8 (Nat.le_of_ble_eq_true rfl)).trans a8
  have E : ∀ k, k < 2 → g k = g0 k := fun k hk => (hg k (Nat.lt_of_lt_of_le hk (Nat.le_of_ble_eq_true rfl))).trans (E k hk)
  refine W.widen (k := 8) (n := 164) (Nat.le_of_ble_eq_true rfl) (Nat.le_of_ble_eq_true rfl) ?_
  refine g_putF (k := 1) (ci := 5) (cs := [5, 7, 9, 2, 0]) hx hb hts hown 3 8 inlX5 tyX5 tyX5_ok nmX5 G rfl rfl (by decide) (by decide) wm_43 rfl hin rfl rfl rfl dX5_init_53 a1 a8 (show _ = WL13 from rfl) (fun H locs G => ?_)
  refine lv_aload_n hx hb dX5_init_56 rfl (lv_at hl 0 rfl) ?_
  refine lv_iconst (v := iz 0) hx hb dX5_init_57 rfl ?_
  refine g_putA (k := 1) (ci := 5) (cs := [5, 7, 9, 11, 0]) hx hb hts hown 4 inlX5 tyX5 tyX5_ok nmX5 G rfl rfl (by decide) rfl wm_44 rfl rfl rfl dX5_init_58 a1 (fun H locs G => ?_)
  refine lv_aload_n hx hb dX5_init_61 rfl (lv_at hl 0 rfl) ?_
  refine g_getA (k := 1) (ci := 5) (cs := [5, 7, 9, 11, 0]) hx hb hts hown 3 8 inlX5 G rfl rfl (by decide) rfl wm_43 dX5_init_62 a1 a8 ?_
  refine lv_iconst (v := iz (-1)) hx hb dX5_init_65 rfl ?_
  refine g_callVv (w := gw w g) (rest := []) hx hb hml hts hown hNw hA G [.int (iz (-1))] (cS_X4_fill WL13 l (gw w g) _ _ 8 6 ⟨rfl, rfl⟩ (by decide) (-1) trivial) (show WL13[8]? = some (1, 4, [12]) from rfl) rfl wm_51 wm_52 wm_53 wm_22 wm_54 hd_X4_fill ⟨rfl, rfl, (Nat.le_of_ble_eq_true rfl), (Nat.le_of_ble_eq_true rfl)⟩ rfl hl.1 (Nat.le_of_ble_eq_true rfl) (by show _ = [Value.int (iz (-1)), Value.ref (g 8)]; rw [a8]) dX5_init_66 ⟨(Nat.le_of_ble_eq_true rfl), (Nat.le_of_ble_eq_true rfl)⟩ (fun s1 H locs h G => ?_)
  rw [h] at G
  exact g_cret (n0 := 2) hx hb hr hlk rfl hz E G (Nat.le_of_ble_eq_true rfl) (Nat.le_of_ble_eq_true rfl) dX5_init_69
def WL14 : List Sh := [(1, 6, [4, 2, 2, 2, 2, 2, 0, 0]), (1, 5, [5, 7, 9, 11, 0]), (1, 4, [6]), (0, 100, []), (1, 4, [8]), (0, 6, []), (1, 4, [10]), (0, 48, []), (1, 4, [12]), (0, 6, [])]
def WL15 : List Sh := [(1, 6, [4, 2, 2, 2, 2, 2, 0, 0]), (1, 5, [5, 7, 9, 11, 0]), (1, 4, [6]), (0, 100, []), (1, 4, [8]), (0, 6, []), (1, 4, [10]), (0, 48, []), (1, 4, [12]), (0, 6, []), (1, 1, [2, 0, 0])]
def WL16 : List Sh := [(1, 6, [4, 2, 2, 2, 2, 2, 0, 0]), (1, 5, [5, 7, 9, 11, 0]), (1, 4, [6]), (0, 100, []), (1, 4, [8]), (0, 6, []), (1, 4, [10]), (0, 48, []), (1, 4, [12]), (0, 6, []), (1, 1, [2, 0, 0]), (2, 4, [2, 2, 2, 2])]
def WL17 : List Sh := [(1, 6, [4, 2, 2, 2, 2, 2, 0, 0]), (1, 5, [5, 7, 9, 11, 0]), (1, 4, [6]), (0, 100, []), (1, 4, [8]), (0, 6, []), (1, 4, [10]), (0, 48, []), (1, 4, [12]), (0, 6, []), (1, 1, [2, 0, 0]), (2, 4, [2, 2, 2, 2]), (1, 5, [2, 2, 2, 2, 0])]
def WL18 : List Sh := [(1, 6, [4, 2, 2, 2, 2, 2, 0, 0]), (1, 5, [5, 7, 9, 11, 0]), (1, 4, [6]), (0, 100, []), (1, 4, [8]), (0, 6, []), (1, 4, [10]), (0, 48, []), (1, 4, [12]), (0, 6, []), (1, 1, [2, 0, 0]), (2, 4, [2, 2, 2, 2]), (1, 5, [2, 2, 2, 2, 0]), (1, 4, [2])]
def WL19 : List Sh := [(1, 6, [4, 2, 2, 2, 2, 2, 0, 0]), (1, 5, [5, 7, 9, 11, 0]), (1, 4, [6]), (0, 100, []), (1, 4, [8]), (0, 6, []), (1, 4, [10]), (0, 48, []), (1, 4, [12]), (0, 6, []), (1, 1, [2, 0, 0]), (2, 4, [2, 2, 2, 2]), (1, 5, [2, 2, 2, 2, 0]), (1, 4, [17]), (0, 100, [])]
def WL20 : List Sh := [(1, 6, [4, 2, 2, 2, 2, 2, 0, 0]), (1, 5, [5, 7, 9, 11, 0]), (1, 4, [6]), (0, 100, []), (1, 4, [8]), (0, 6, []), (1, 4, [10]), (0, 48, []), (1, 4, [12]), (0, 6, []), (1, 1, [2, 0, 0]), (2, 4, [2, 2, 2, 2]), (1, 5, [16, 2, 2, 2, 0]), (1, 4, [17]), (0, 100, [])]
def WL21 : List Sh := [(1, 6, [4, 2, 2, 2, 2, 2, 0, 0]), (1, 5, [5, 7, 9, 11, 0]), (1, 4, [6]), (0, 100, []), (1, 4, [8]), (0, 6, []), (1, 4, [10]), (0, 48, []), (1, 4, [12]), (0, 6, []), (1, 1, [2, 0, 0]), (2, 4, [2, 2, 2, 2]), (1, 5, [16, 2, 2, 2, 0]), (1, 4, [17]), (0, 100, []), (1, 4, [2])]
def WL22 : List Sh := [(1, 6, [4, 2, 2, 2, 2, 2, 0, 0]), (1, 5, [5, 7, 9, 11, 0]), (1, 4, [6]), (0, 100, []), (1, 4, [8]), (0, 6, []), (1, 4, [10]), (0, 48, []), (1, 4, [12]), (0, 6, []), (1, 1, [2, 0, 0]), (2, 4, [2, 2, 2, 2]), (1, 5, [16, 2, 2, 2, 0]), (1, 4, [17]), (0, 100, []), (1, 4, [19]), (0, 6, [])]
def WL23 : List Sh := [(1, 6, [4, 2, 2, 2, 2, 2, 0, 0]), (1, 5, [5, 7, 9, 11, 0]), (1, 4, [6]), (0, 100, []), (1, 4, [8]), (0, 6, []), (1, 4, [10]), (0, 48, []), (1, 4, [12]), (0, 6, []), (1, 1, [2, 0, 0]), (2, 4, [2, 2, 2, 2]), (1, 5, [16, 18, 2, 2, 0]), (1, 4, [17]), (0, 100, []), (1, 4, [19]), (0, 6, [])]
def WL24 : List Sh := [(1, 6, [4, 2, 2, 2, 2, 2, 0, 0]), (1, 5, [5, 7, 9, 11, 0]), (1, 4, [6]), (0, 100, []), (1, 4, [8]), (0, 6, []), (1, 4, [10]), (0, 48, []), (1, 4, [12]), (0, 6, []), (1, 1, [2, 0, 0]), (2, 4, [2, 2, 2, 2]), (1, 5, [16, 18, 2, 2, 0]), (1, 4, [17]), (0, 100, []), (1, 4, [19]), (0, 6, []), (1, 4, [2])]
def WL25 : List Sh := [(1, 6, [4, 2, 2, 2, 2, 2, 0, 0]), (1, 5, [5, 7, 9, 11, 0]), (1, 4, [6]), (0, 100, []), (1, 4, [8]), (0, 6, []), (1, 4, [10]), (0, 48, []), (1, 4, [12]), (0, 6, []), (1, 1, [2, 0, 0]), (2, 4, [2, 2, 2, 2]), (1, 5, [16, 18, 2, 2, 0]), (1, 4, [17]), (0, 100, []), (1, 4, [19]), (0, 6, []), (1, 4, [21]), (0, 48, [])]
def WL26 : List Sh := [(1, 6, [4, 2, 2, 2, 2, 2, 0, 0]), (1, 5, [5, 7, 9, 11, 0]), (1, 4, [6]), (0, 100, []), (1, 4, [8]), (0, 6, []), (1, 4, [10]), (0, 48, []), (1, 4, [12]), (0, 6, []), (1, 1, [2, 0, 0]), (2, 4, [2, 2, 2, 2]), (1, 5, [16, 18, 20, 2, 0]), (1, 4, [17]), (0, 100, []), (1, 4, [19]), (0, 6, []), (1, 4, [21]), (0, 48, [])]
def WL27 : List Sh := [(1, 6, [4, 2, 2, 2, 2, 2, 0, 0]), (1, 5, [5, 7, 9, 11, 0]), (1, 4, [6]), (0, 100, []), (1, 4, [8]), (0, 6, []), (1, 4, [10]), (0, 48, []), (1, 4, [12]), (0, 6, []), (1, 1, [2, 0, 0]), (2, 4, [2, 2, 2, 2]), (1, 5, [16, 18, 20, 2, 0]), (1, 4, [17]), (0, 100, []), (1, 4, [19]), (0, 6, []), (1, 4, [21]), (0, 48, []), (1, 4, [2])]
def WL28 : List Sh := [(1, 6, [4, 2, 2, 2, 2, 2, 0, 0]), (1, 5, [5, 7, 9, 11, 0]), (1, 4, [6]), (0, 100, []), (1, 4, [8]), (0, 6, []), (1, 4, [10]), (0, 48, []), (1, 4, [12]), (0, 6, []), (1, 1, [2, 0, 0]), (2, 4, [2, 2, 2, 2]), (1, 5, [16, 18, 20, 2, 0]), (1, 4, [17]), (0, 100, []), (1, 4, [19]), (0, 6, []), (1, 4, [21]), (0, 48, []), (1, 4, [23]), (0, 6, [])]
def WL29 : List Sh := [(1, 6, [4, 2, 2, 2, 2, 2, 0, 0]), (1, 5, [5, 7, 9, 11, 0]), (1, 4, [6]), (0, 100, []), (1, 4, [8]), (0, 6, []), (1, 4, [10]), (0, 48, []), (1, 4, [12]), (0, 6, []), (1, 1, [2, 0, 0]), (2, 4, [2, 2, 2, 2]), (1, 5, [16, 18, 20, 22, 0]), (1, 4, [17]), (0, 100, []), (1, 4, [19]), (0, 6, []), (1, 4, [21]), (0, 48, []), (1, 4, [23]), (0, 6, [])]
def sg_State_12 (σ : St) : St := (eff_X4_fill 19 6 (-1) (up (ur (ur (ur (ur (ur (ur (ur (ur σ 13 (fun _ => 0)) 14 (fun _ => 0)) 15 (fun _ => 0)) 16 (fun _ => 0)) 17 (fun _ => 0)) 18 (fun _ => 0)) 19 (fun _ => 0)) 20 (fun _ => 0)) 12 4 0))
abbrev rc_State_12 : Room := ({ frames := 2, cells := 8, slots := 164, locals := 33 } : Room)
set_option maxHeartbeats 4000000 in
set_option maxRecDepth 100000 in
theorem cc_State_12 (l : Launch) (w : GW) (g0 : Nat → Nat) (σ : St) (sz : Nat) (x12 : Nat) (a12 : g0 12 = x12) : Met l yX5_init (Cond.code yX5_init cX5_init 1 none :: wsL_law) rc_State_12 (gPcC (gw w g0) WL17 σ sz [.ref x12]) (gQc w g0 WL17.length sz WL29 (sg_State_12 σ)) 8 164 (gA (gw w g0) WL17.length sz) := by
  refine g_metC (by decide) [.ref x12] (Nat.le_of_ble_eq_true rfl) ?_
  intro p e s m below meth c ls hz C0 hin hao hl G
  obtain ⟨hx, hb, hr, hml, hown, hts, hlk, hNw, hA⟩ := id C0
  have hown : s.vm.findClass RX5 = some m.cls := hown
  have hl : lv_has ls 1 [(0, .ref x12)] := hl
  have E : ∀ k, k < 13 → g0 k = g0 k := fun _ _ => rfl
  refine lv_aload_n hx hb dX5_init_0 rfl (lv_at hl 0 rfl) ?_
  refine g_objI hx hb hml hts hown wm_38 wm_10 wm_11 hl.1 (Nat.le_of_ble_eq_true rfl) (Nat.le_of_ble_eq_true rfl) dX5_init_1 ?_
  refine lv_aload_n hx hb dX5_init_4 rfl (lv_at hl 0 rfl) ?_
  refine g_newO (n := 13) (ci := 4) (C := RX4) (T := TX4) (N := 1) hx hb hts hown [2] inlX4 tyX4 tyX4_ok G hA rfl (by decide +kernel) rfl (fun j hj => by rcases (show j = 0 by omega) with rfl <;> rfl) (by decide) wm_39 wm_21 wm_22 (Nat.le_of_ble_eq_true rfl) (Nat.le_of_ble_eq_true rfl) dX5_init_5 (show _ = WL18 from rfl) (fun g x13 H a13 hg G => ?_)
  have a12 := (hg 12 (Nat.le_of_ble_eq_true rfl)).trans a12
  have E : ∀ k, k < 13 → g k = g0 k := fun k hk => (hg k (Nat.lt_of_lt_of_le hk (Nat.le_of_ble_eq_true rfl))).trans (E k hk)
  refine W.widen (k := 1) (n := 1) (Nat.le_of_ble_eq_true rfl) (Nat.le_of_ble_eq_true rfl) ?_
  refine lv_dup hx hb dX5_init_8 rfl ?_
  refine lv_bipush (v := iz 100) hx hb dX5_init_9 (by decide +kernel) ?_
  refine g_callC (n := 1) (rest := [.ref x13, .ref x12]) (n0 := 14) hx hb hml hts hown hNw hao hA G [.int (iz 100)] (c4_init l w _ _ _ 13 100 14 x13 a13 rfl (by decide +kernel) rfl (by decide) (i := 100) rfl (show _ = WL19 from rfl)) rfl wm_45 wm_46 wm_22 wm_47 rfl ⟨by decide +kernel, by decide +kernel, by decide +kernel⟩ ⟨rfl, rfl, (Nat.le_of_ble_eq_true rfl), (Nat.le_of_ble_eq_true rfl)⟩ rfl hl.1 (Nat.le_of_ble_eq_true rfl) rfl dX5_init_11 ⟨(Nat.le_of_ble_eq_true rfl), (Nat.le_of_ble_eq_true rfl)⟩ (fun g H locs hg G => ?_)
  have a12 := (hg 12 (Nat.le_of_ble_eq_true rfl)).trans a12
  have a13 := (hg 13 (Nat.le_of_ble_eq_true rfl)).trans a13
  have E : ∀ k, k < 13 → g k = g0 k := fun k hk => (hg k (Nat.lt_of_lt_of_le hk (Nat.le_of_ble_eq_true rfl))).trans (E k hk)
  refine W.widen (k := 2) (n := 101) (Nat.le_of_ble_eq_true rfl) (Nat.le_of_ble_eq_true rfl) ?_
  refine g_putF (k := 12) (ci := 5) (cs := [2, 2, 2, 2, 0]) hx hb hts hown 0 13 inlX5 tyX5 tyX5_ok nmX5 G rfl rfl (by decide) (by decide) wm_40 rfl hin rfl rfl rfl dX5_init_14 a12 a13 (show _ = WL20 from rfl) (fun H locs G => ?_)
  refine lv_aload_n hx hb dX5_init_17 rfl (lv_at hl 0 rfl) ?_
  refine g_newO (n := 15) (ci := 4) (C := RX4) (T := TX4) (N := 1) hx hb hts hown [2] inlX4 tyX4 tyX4_ok G hA rfl (by decide +kernel) rfl (fun j hj => by rcases (show j = 0 by omega) with rfl <;> rfl) (by decide) wm_39 wm_21 wm_22 (Nat.le_of_ble_eq_true rfl) (Nat.le_of_ble_eq_true rfl) dX5_init_18 (show _ = WL21 from rfl) (fun g x15 H a15 hg G => ?_)
  have a12 := (hg 12 (Nat.le_of_ble_eq_true rfl)).trans a12
  have a13 := (hg 13 (Nat.le_of_ble_eq_true rfl)).trans a13
  have E : ∀ k, k < 13 → g k = g0 k := fun k hk => (hg k (Nat.lt_of_lt_of_le hk (Nat.le_of_ble_eq_true rfl))).trans (E k hk)
  refine W.widen (k := 3) (n := 102) (Nat.le_of_ble_eq_true rfl) (Nat.le_of_ble_eq_true rfl) ?_
  refine lv_dup hx hb dX5_init_21 rfl ?_
  refine lv_bipush (v := iz 6) hx hb dX5_init_22 (by decide +kernel) ?_
  refine g_callC (n := 1) (rest := [.ref x15, .ref x12]) (n0 := 16) hx hb hml hts hown hNw hao hA G [.int (iz 6)] (c4_init l w _ _ _ 15 6 16 x15 a15 rfl (by decide +kernel) rfl (by decide) (i := 6) rfl (show _ = WL22 from rfl)) rfl wm_45 wm_46 wm_22 wm_47 rfl ⟨by decide +kernel, by decide +kernel, by decide +kernel⟩ ⟨rfl, rfl, (Nat.le_of_ble_eq_true rfl), (Nat.le_of_ble_eq_true rfl)⟩ rfl hl.1 (Nat.le_of_ble_eq_true rfl) rfl dX5_init_24 ⟨(Nat.le_of_ble_eq_true rfl), (Nat.le_of_ble_eq_true rfl)⟩ (fun g H locs hg G => ?_)
  have a12 := (hg 12 (Nat.le_of_ble_eq_true rfl)).trans a12
  have a13 := (hg 13 (Nat.le_of_ble_eq_true rfl)).trans a13
  have a15 := (hg 15 (Nat.le_of_ble_eq_true rfl)).trans a15
  have E : ∀ k, k < 13 → g k = g0 k := fun k hk => (hg k (Nat.lt_of_lt_of_le hk (Nat.le_of_ble_eq_true rfl))).trans (E k hk)
  refine W.widen (k := 4) (n := 108) (Nat.le_of_ble_eq_true rfl) (Nat.le_of_ble_eq_true rfl) ?_
  refine g_putF (k := 12) (ci := 5) (cs := [16, 2, 2, 2, 0]) hx hb hts hown 1 15 inlX5 tyX5 tyX5_ok nmX5 G rfl rfl (by decide) (by decide) wm_41 rfl hin rfl rfl rfl dX5_init_27 a12 a15 (show _ = WL23 from rfl) (fun H locs G => ?_)
  refine lv_aload_n hx hb dX5_init_30 rfl (lv_at hl 0 rfl) ?_
  refine g_newO (n := 17) (ci := 4) (C := RX4) (T := TX4) (N := 1) hx hb hts hown [2] inlX4 tyX4 tyX4_ok G hA rfl (by decide +kernel) rfl (fun j hj => by rcases (show j = 0 by omega) with rfl <;> rfl) (by decide) wm_39 wm_21 wm_22 (Nat.le_of_ble_eq_true rfl) (Nat.le_of_ble_eq_true rfl) dX5_init_31 (show _ = WL24 from rfl) (fun g x17 H a17 hg G => ?_)
  have a12 := (hg 12 (Nat.le_of_ble_eq_true rfl)).trans a12
  have a13 := (hg 13 (Nat.le_of_ble_eq_true rfl)).trans a13
  have a15 := (hg 15 (Nat.le_of_ble_eq_true rfl)).trans a15
  have E : ∀ k, k < 13 → g k = g0 k := fun k hk => (hg k (Nat.lt_of_lt_of_le hk (Nat.le_of_ble_eq_true rfl))).trans (E k hk)
  refine W.widen (k := 5) (n := 109) (Nat.le_of_ble_eq_true rfl) (Nat.le_of_ble_eq_true rfl) ?_
  refine lv_dup hx hb dX5_init_34 rfl ?_
  refine lv_bipush (v := iz 48) hx hb dX5_init_35 (by decide +kernel) ?_
  refine g_callC (n := 1) (rest := [.ref x17, .ref x12]) (n0 := 18) hx hb hml hts hown hNw hao hA G [.int (iz 48)] (c4_init l w _ _ _ 17 48 18 x17 a17 rfl (by decide +kernel) rfl (by decide) (i := 48) rfl (show _ = WL25 from rfl)) rfl wm_45 wm_46 wm_22 wm_47 rfl ⟨by decide +kernel, by decide +kernel, by decide +kernel⟩ ⟨rfl, rfl, (Nat.le_of_ble_eq_true rfl), (Nat.le_of_ble_eq_true rfl)⟩ rfl hl.1 (Nat.le_of_ble_eq_true rfl) rfl dX5_init_37 ⟨(Nat.le_of_ble_eq_true rfl), (Nat.le_of_ble_eq_true rfl)⟩ (fun g H locs hg G => ?_)
  have a12 := (hg 12 (Nat.le_of_ble_eq_true rfl)).trans a12
  have a13 := (hg 13 (Nat.le_of_ble_eq_true rfl)).trans a13
  have a15 := (hg 15 (Nat.le_of_ble_eq_true rfl)).trans a15
  have a17 := (hg 17 (Nat.le_of_ble_eq_true rfl)).trans a17
  have E : ∀ k, k < 13 → g k = g0 k := fun k hk => (hg k (Nat.lt_of_lt_of_le hk (Nat.le_of_ble_eq_true rfl))).trans (E k hk)
  refine W.widen (k := 6) (n := 157) (Nat.le_of_ble_eq_true rfl) (Nat.le_of_ble_eq_true rfl) ?_
  refine g_putF (k := 12) (ci := 5) (cs := [16, 18, 2, 2, 0]) hx hb hts hown 2 17 inlX5 tyX5 tyX5_ok nmX5 G rfl rfl (by decide) (by decide) wm_42 rfl hin rfl rfl rfl dX5_init_40 a12 a17 (show _ = WL26 from rfl) (fun H locs G => ?_)
  refine lv_aload_n hx hb dX5_init_43 rfl (lv_at hl 0 rfl) ?_
  refine g_newO (n := 19) (ci := 4) (C := RX4) (T := TX4) (N := 1) hx hb hts hown [2] inlX4 tyX4 tyX4_ok G hA rfl (by decide +kernel) rfl (fun j hj => by rcases (show j = 0 by omega) with rfl <;> rfl) (by decide) wm_39 wm_21 wm_22 (Nat.le_of_ble_eq_true rfl) (Nat.le_of_ble_eq_true rfl) dX5_init_44 (show _ = WL27 from rfl) (fun g x19 H a19 hg G => ?_)
  have a12 := (hg 12 (Nat.le_of_ble_eq_true rfl)).trans a12
  have a13 := (hg 13 (Nat.le_of_ble_eq_true rfl)).trans a13
  have a15 := (hg 15 (Nat.le_of_ble_eq_true rfl)).trans a15
  have a17 := (hg 17 (Nat.le_of_ble_eq_true rfl)).trans a17
  have E : ∀ k, k < 13 → g k = g0 k := fun k hk => (hg k (Nat.lt_of_lt_of_le hk (Nat.le_of_ble_eq_true rfl))).trans (E k hk)
  refine W.widen (k := 7) (n := 158) (Nat.le_of_ble_eq_true rfl) (Nat.le_of_ble_eq_true rfl) ?_
  refine lv_dup hx hb dX5_init_47 rfl ?_
  refine lv_bipush (v := iz 6) hx hb dX5_init_48 (by decide +kernel) ?_
  refine g_callC (n := 1) (rest := [.ref x19, .ref x12]) (n0 := 20) hx hb hml hts hown hNw hao hA G [.int (iz 6)] (c4_init l w _ _ _ 19 6 20 x19 a19 rfl (by decide +kernel) rfl (by decide) (i := 6) rfl (show _ = WL28 from rfl)) rfl wm_45 wm_46 wm_22 wm_47 rfl ⟨by decide +kernel, by decide +kernel, by decide +kernel⟩ ⟨rfl, rfl, (Nat.le_of_ble_eq_true rfl), (Nat.le_of_ble_eq_true rfl)⟩ rfl hl.1 (Nat.le_of_ble_eq_true rfl) rfl dX5_init_50 ⟨(Nat.le_of_ble_eq_true rfl), (Nat.le_of_ble_eq_true rfl)⟩ (fun g H locs hg G => ?_)
  have a12 := (hg 12 (Nat.le_of_ble_eq_true rfl)).trans a12
  have a13 := (hg 13 (Nat.le_of_ble_eq_true rfl)).trans a13
  have a15 := (hg 15 (Nat.le_of_ble_eq_true rfl)).trans a15
  have a17 := (hg 17 (Nat.le_of_ble_eq_true rfl)).trans a17
  have a19 := (hg 19 (Nat.le_of_ble_eq_true rfl)).trans a19
  have E : ∀ k, k < 13 → g k = g0 k := fun k hk => (hg k (Nat.lt_of_lt_of_le hk (Nat.le_of_ble_eq_true rfl))).trans (E k hk)
  refine W.widen (k := 8) (n := 164) (Nat.le_of_ble_eq_true rfl) (Nat.le_of_ble_eq_true rfl) ?_
  refine g_putF (k := 12) (ci := 5) (cs := [16, 18, 20, 2, 0]) hx hb hts hown 3 19 inlX5 tyX5 tyX5_ok nmX5 G rfl rfl (by decide) (by decide) wm_43 rfl hin rfl rfl rfl dX5_init_53 a12 a19 (show _ = WL29 from rfl) (fun H locs G => ?_)
  refine lv_aload_n hx hb dX5_init_56 rfl (lv_at hl 0 rfl) ?_
  refine lv_iconst (v := iz 0) hx hb dX5_init_57 rfl ?_
  refine g_putA (k := 12) (ci := 5) (cs := [16, 18, 20, 22, 0]) hx hb hts hown 4 inlX5 tyX5 tyX5_ok nmX5 G rfl rfl (by decide) rfl wm_44 rfl rfl rfl dX5_init_58 a12 (fun H locs G => ?_)
  refine lv_aload_n hx hb dX5_init_61 rfl (lv_at hl 0 rfl) ?_
  refine g_getA (k := 12) (ci := 5) (cs := [16, 18, 20, 22, 0]) hx hb hts hown 3 19 inlX5 G rfl rfl (by decide) rfl wm_43 dX5_init_62 a12 a19 ?_
  refine lv_iconst (v := iz (-1)) hx hb dX5_init_65 rfl ?_
  refine g_callVv (w := gw w g) (rest := []) hx hb hml hts hown hNw hA G [.int (iz (-1))] (cS_X4_fill WL29 l (gw w g) _ _ 19 6 ⟨rfl, rfl⟩ (by decide) (-1) trivial) (show WL29[19]? = some (1, 4, [23]) from rfl) rfl wm_51 wm_52 wm_53 wm_22 wm_54 hd_X4_fill ⟨rfl, rfl, (Nat.le_of_ble_eq_true rfl), (Nat.le_of_ble_eq_true rfl)⟩ rfl hl.1 (Nat.le_of_ble_eq_true rfl) (by show _ = [Value.int (iz (-1)), Value.ref (g 19)]; rw [a19]) dX5_init_66 ⟨(Nat.le_of_ble_eq_true rfl), (Nat.le_of_ble_eq_true rfl)⟩ (fun s1 H locs h G => ?_)
  rw [h] at G
  exact g_cret (n0 := 13) hx hb hr hlk rfl hz E G (Nat.le_of_ble_eq_true rfl) (Nat.le_of_ble_eq_true rfl) dX5_init_69
def WL30 : List Sh := [(1, 6, [4, 2, 2, 2, 2, 2, 0, 0]), (1, 5, [5, 7, 9, 11, 0]), (1, 4, [6]), (0, 100, []), (1, 4, [8]), (0, 6, []), (1, 4, [10]), (0, 48, []), (1, 4, [12]), (0, 6, []), (1, 1, [2, 0, 0]), (2, 4, [15, 2, 2, 2]), (1, 5, [16, 18, 20, 22, 0]), (1, 4, [17]), (0, 100, []), (1, 4, [19]), (0, 6, []), (1, 4, [21]), (0, 48, []), (1, 4, [23]), (0, 6, [])]
def WL31 : List Sh := [(1, 6, [4, 2, 2, 2, 2, 2, 0, 0]), (1, 5, [5, 7, 9, 11, 0]), (1, 4, [6]), (0, 100, []), (1, 4, [8]), (0, 6, []), (1, 4, [10]), (0, 48, []), (1, 4, [12]), (0, 6, []), (1, 1, [2, 0, 0]), (2, 4, [15, 2, 2, 2]), (1, 5, [16, 18, 20, 22, 0]), (1, 4, [17]), (0, 100, []), (1, 4, [19]), (0, 6, []), (1, 4, [21]), (0, 48, []), (1, 4, [23]), (0, 6, []), (1, 5, [2, 2, 2, 2, 0])]
def WL32 : List Sh := [(1, 6, [4, 2, 2, 2, 2, 2, 0, 0]), (1, 5, [5, 7, 9, 11, 0]), (1, 4, [6]), (0, 100, []), (1, 4, [8]), (0, 6, []), (1, 4, [10]), (0, 48, []), (1, 4, [12]), (0, 6, []), (1, 1, [2, 0, 0]), (2, 4, [15, 2, 2, 2]), (1, 5, [16, 18, 20, 22, 0]), (1, 4, [17]), (0, 100, []), (1, 4, [19]), (0, 6, []), (1, 4, [21]), (0, 48, []), (1, 4, [23]), (0, 6, []), (1, 5, [2, 2, 2, 2, 0]), (1, 4, [2])]
def WL33 : List Sh := [(1, 6, [4, 2, 2, 2, 2, 2, 0, 0]), (1, 5, [5, 7, 9, 11, 0]), (1, 4, [6]), (0, 100, []), (1, 4, [8]), (0, 6, []), (1, 4, [10]), (0, 48, []), (1, 4, [12]), (0, 6, []), (1, 1, [2, 0, 0]), (2, 4, [15, 2, 2, 2]), (1, 5, [16, 18, 20, 22, 0]), (1, 4, [17]), (0, 100, []), (1, 4, [19]), (0, 6, []), (1, 4, [21]), (0, 48, []), (1, 4, [23]), (0, 6, []), (1, 5, [2, 2, 2, 2, 0]), (1, 4, [26]), (0, 100, [])]
def WL34 : List Sh := [(1, 6, [4, 2, 2, 2, 2, 2, 0, 0]), (1, 5, [5, 7, 9, 11, 0]), (1, 4, [6]), (0, 100, []), (1, 4, [8]), (0, 6, []), (1, 4, [10]), (0, 48, []), (1, 4, [12]), (0, 6, []), (1, 1, [2, 0, 0]), (2, 4, [15, 2, 2, 2]), (1, 5, [16, 18, 20, 22, 0]), (1, 4, [17]), (0, 100, []), (1, 4, [19]), (0, 6, []), (1, 4, [21]), (0, 48, []), (1, 4, [23]), (0, 6, []), (1, 5, [25, 2, 2, 2, 0]), (1, 4, [26]), (0, 100, [])]
def WL35 : List Sh := [(1, 6, [4, 2, 2, 2, 2, 2, 0, 0]), (1, 5, [5, 7, 9, 11, 0]), (1, 4, [6]), (0, 100, []), (1, 4, [8]), (0, 6, []), (1, 4, [10]), (0, 48, []), (1, 4, [12]), (0, 6, []), (1, 1, [2, 0, 0]), (2, 4, [15, 2, 2, 2]), (1, 5, [16, 18, 20, 22, 0]), (1, 4, [17]), (0, 100, []), (1, 4, [19]), (0, 6, []), (1, 4, [21]), (0, 48, []), (1, 4, [23]), (0, 6, []), (1, 5, [25, 2, 2, 2, 0]), (1, 4, [26]), (0, 100, []), (1, 4, [2])]
def WL36 : List Sh := [(1, 6, [4, 2, 2, 2, 2, 2, 0, 0]), (1, 5, [5, 7, 9, 11, 0]), (1, 4, [6]), (0, 100, []), (1, 4, [8]), (0, 6, []), (1, 4, [10]), (0, 48, []), (1, 4, [12]), (0, 6, []), (1, 1, [2, 0, 0]), (2, 4, [15, 2, 2, 2]), (1, 5, [16, 18, 20, 22, 0]), (1, 4, [17]), (0, 100, []), (1, 4, [19]), (0, 6, []), (1, 4, [21]), (0, 48, []), (1, 4, [23]), (0, 6, []), (1, 5, [25, 2, 2, 2, 0]), (1, 4, [26]), (0, 100, []), (1, 4, [28]), (0, 6, [])]
def WL37 : List Sh := [(1, 6, [4, 2, 2, 2, 2, 2, 0, 0]), (1, 5, [5, 7, 9, 11, 0]), (1, 4, [6]), (0, 100, []), (1, 4, [8]), (0, 6, []), (1, 4, [10]), (0, 48, []), (1, 4, [12]), (0, 6, []), (1, 1, [2, 0, 0]), (2, 4, [15, 2, 2, 2]), (1, 5, [16, 18, 20, 22, 0]), (1, 4, [17]), (0, 100, []), (1, 4, [19]), (0, 6, []), (1, 4, [21]), (0, 48, []), (1, 4, [23]), (0, 6, []), (1, 5, [25, 27, 2, 2, 0]), (1, 4, [26]), (0, 100, []), (1, 4, [28]), (0, 6, [])]
def WL38 : List Sh := [(1, 6, [4, 2, 2, 2, 2, 2, 0, 0]), (1, 5, [5, 7, 9, 11, 0]), (1, 4, [6]), (0, 100, []), (1, 4, [8]), (0, 6, []), (1, 4, [10]), (0, 48, []), (1, 4, [12]), (0, 6, []), (1, 1, [2, 0, 0]), (2, 4, [15, 2, 2, 2]), (1, 5, [16, 18, 20, 22, 0]), (1, 4, [17]), (0, 100, []), (1, 4, [19]), (0, 6, []), (1, 4, [21]), (0, 48, []), (1, 4, [23]), (0, 6, []), (1, 5, [25, 27, 2, 2, 0]), (1, 4, [26]), (0, 100, []), (1, 4, [28]), (0, 6, []), (1, 4, [2])]
def WL39 : List Sh := [(1, 6, [4, 2, 2, 2, 2, 2, 0, 0]), (1, 5, [5, 7, 9, 11, 0]), (1, 4, [6]), (0, 100, []), (1, 4, [8]), (0, 6, []), (1, 4, [10]), (0, 48, []), (1, 4, [12]), (0, 6, []), (1, 1, [2, 0, 0]), (2, 4, [15, 2, 2, 2]), (1, 5, [16, 18, 20, 22, 0]), (1, 4, [17]), (0, 100, []), (1, 4, [19]), (0, 6, []), (1, 4, [21]), (0, 48, []), (1, 4, [23]), (0, 6, []), (1, 5, [25, 27, 2, 2, 0]), (1, 4, [26]), (0, 100, []), (1, 4, [28]), (0, 6, []), (1, 4, [30]), (0, 48, [])]
def WL40 : List Sh := [(1, 6, [4, 2, 2, 2, 2, 2, 0, 0]), (1, 5, [5, 7, 9, 11, 0]), (1, 4, [6]), (0, 100, []), (1, 4, [8]), (0, 6, []), (1, 4, [10]), (0, 48, []), (1, 4, [12]), (0, 6, []), (1, 1, [2, 0, 0]), (2, 4, [15, 2, 2, 2]), (1, 5, [16, 18, 20, 22, 0]), (1, 4, [17]), (0, 100, []), (1, 4, [19]), (0, 6, []), (1, 4, [21]), (0, 48, []), (1, 4, [23]), (0, 6, []), (1, 5, [25, 27, 29, 2, 0]), (1, 4, [26]), (0, 100, []), (1, 4, [28]), (0, 6, []), (1, 4, [30]), (0, 48, [])]
def WL41 : List Sh := [(1, 6, [4, 2, 2, 2, 2, 2, 0, 0]), (1, 5, [5, 7, 9, 11, 0]), (1, 4, [6]), (0, 100, []), (1, 4, [8]), (0, 6, []), (1, 4, [10]), (0, 48, []), (1, 4, [12]), (0, 6, []), (1, 1, [2, 0, 0]), (2, 4, [15, 2, 2, 2]), (1, 5, [16, 18, 20, 22, 0]), (1, 4, [17]), (0, 100, []), (1, 4, [19]), (0, 6, []), (1, 4, [21]), (0, 48, []), (1, 4, [23]), (0, 6, []), (1, 5, [25, 27, 29, 2, 0]), (1, 4, [26]), (0, 100, []), (1, 4, [28]), (0, 6, []), (1, 4, [30]), (0, 48, []), (1, 4, [2])]
def WL42 : List Sh := [(1, 6, [4, 2, 2, 2, 2, 2, 0, 0]), (1, 5, [5, 7, 9, 11, 0]), (1, 4, [6]), (0, 100, []), (1, 4, [8]), (0, 6, []), (1, 4, [10]), (0, 48, []), (1, 4, [12]), (0, 6, []), (1, 1, [2, 0, 0]), (2, 4, [15, 2, 2, 2]), (1, 5, [16, 18, 20, 22, 0]), (1, 4, [17]), (0, 100, []), (1, 4, [19]), (0, 6, []), (1, 4, [21]), (0, 48, []), (1, 4, [23]), (0, 6, []), (1, 5, [25, 27, 29, 2, 0]), (1, 4, [26]), (0, 100, []), (1, 4, [28]), (0, 6, []), (1, 4, [30]), (0, 48, []), (1, 4, [32]), (0, 6, [])]
def WL43 : List Sh := [(1, 6, [4, 2, 2, 2, 2, 2, 0, 0]), (1, 5, [5, 7, 9, 11, 0]), (1, 4, [6]), (0, 100, []), (1, 4, [8]), (0, 6, []), (1, 4, [10]), (0, 48, []), (1, 4, [12]), (0, 6, []), (1, 1, [2, 0, 0]), (2, 4, [15, 2, 2, 2]), (1, 5, [16, 18, 20, 22, 0]), (1, 4, [17]), (0, 100, []), (1, 4, [19]), (0, 6, []), (1, 4, [21]), (0, 48, []), (1, 4, [23]), (0, 6, []), (1, 5, [25, 27, 29, 31, 0]), (1, 4, [26]), (0, 100, []), (1, 4, [28]), (0, 6, []), (1, 4, [30]), (0, 48, []), (1, 4, [32]), (0, 6, [])]
def sg_State_21 (σ : St) : St := (eff_X4_fill 28 6 (-1) (up (ur (ur (ur (ur (ur (ur (ur (ur σ 22 (fun _ => 0)) 23 (fun _ => 0)) 24 (fun _ => 0)) 25 (fun _ => 0)) 26 (fun _ => 0)) 27 (fun _ => 0)) 28 (fun _ => 0)) 29 (fun _ => 0)) 21 4 0))
abbrev rc_State_21 : Room := ({ frames := 2, cells := 8, slots := 164, locals := 33 } : Room)
set_option maxHeartbeats 4000000 in
set_option maxRecDepth 100000 in
theorem cc_State_21 (l : Launch) (w : GW) (g0 : Nat → Nat) (σ : St) (sz : Nat) (x21 : Nat) (a21 : g0 21 = x21) : Met l yX5_init (Cond.code yX5_init cX5_init 1 none :: wsL_law) rc_State_21 (gPcC (gw w g0) WL31 σ sz [.ref x21]) (gQc w g0 WL31.length sz WL43 (sg_State_21 σ)) 8 164 (gA (gw w g0) WL31.length sz) := by
  refine g_metC (by decide) [.ref x21] (Nat.le_of_ble_eq_true rfl) ?_
  intro p e s m below meth c ls hz C0 hin hao hl G
  obtain ⟨hx, hb, hr, hml, hown, hts, hlk, hNw, hA⟩ := id C0
  have hown : s.vm.findClass RX5 = some m.cls := hown
  have hl : lv_has ls 1 [(0, .ref x21)] := hl
  have E : ∀ k, k < 22 → g0 k = g0 k := fun _ _ => rfl
  refine lv_aload_n hx hb dX5_init_0 rfl (lv_at hl 0 rfl) ?_
  refine g_objI hx hb hml hts hown wm_38 wm_10 wm_11 hl.1 (Nat.le_of_ble_eq_true rfl) (Nat.le_of_ble_eq_true rfl) dX5_init_1 ?_
  refine lv_aload_n hx hb dX5_init_4 rfl (lv_at hl 0 rfl) ?_
  refine g_newO (n := 22) (ci := 4) (C := RX4) (T := TX4) (N := 1) hx hb hts hown [2] inlX4 tyX4 tyX4_ok G hA rfl (by decide +kernel) rfl (fun j hj => by rcases (show j = 0 by omega) with rfl <;> rfl) (by decide) wm_39 wm_21 wm_22 (Nat.le_of_ble_eq_true rfl) (Nat.le_of_ble_eq_true rfl) dX5_init_5 (show _ = WL32 from rfl) (fun g x22 H a22 hg G => ?_)
  have a21 := (hg 21 (Nat.le_of_ble_eq_true rfl)).trans a21
  have E : ∀ k, k < 22 → g k = g0 k := fun k hk => (hg k (Nat.lt_of_lt_of_le hk (Nat.le_of_ble_eq_true rfl))).trans (E k hk)
  refine W.widen (k := 1) (n := 1) (Nat.le_of_ble_eq_true rfl) (Nat.le_of_ble_eq_true rfl) ?_
  refine lv_dup hx hb dX5_init_8 rfl ?_
  refine lv_bipush (v := iz 100) hx hb dX5_init_9 (by decide +kernel) ?_
  refine g_callC (n := 1) (rest := [.ref x22, .ref x21]) (n0 := 23) hx hb hml hts hown hNw hao hA G [.int (iz 100)] (c4_init l w _ _ _ 22 100 23 x22 a22 rfl (by decide +kernel) rfl (by decide) (i := 100) rfl (show _ = WL33 from rfl)) rfl wm_45 wm_46 wm_22 wm_47 rfl ⟨by decide +kernel, by decide +kernel, by decide +kernel⟩ ⟨rfl, rfl, (Nat.le_of_ble_eq_true rfl), (Nat.le_of_ble_eq_true rfl)⟩ rfl hl.1 (Nat.le_of_ble_eq_true rfl) rfl dX5_init_11 ⟨(Nat.le_of_ble_eq_true rfl), (Nat.le_of_ble_eq_true rfl)⟩ (fun g H locs hg G => ?_)
  have a21 := (hg 21 (Nat.le_of_ble_eq_true rfl)).trans a21
  have a22 := (hg 22 (Nat.le_of_ble_eq_true rfl)).trans a22
  have E : ∀ k, k < 22 → g k = g0 k := fun k hk => (hg k (Nat.lt_of_lt_of_le hk (Nat.le_of_ble_eq_true rfl))).trans (E k hk)
  refine W.widen (k := 2) (n := 101) (Nat.le_of_ble_eq_true rfl) (Nat.le_of_ble_eq_true rfl) ?_
  refine g_putF (k := 21) (ci := 5) (cs := [2, 2, 2, 2, 0]) hx hb hts hown 0 22 inlX5 tyX5 tyX5_ok nmX5 G rfl rfl (by decide) (by decide) wm_40 rfl hin rfl rfl rfl dX5_init_14 a21 a22 (show _ = WL34 from rfl) (fun H locs G => ?_)
  refine lv_aload_n hx hb dX5_init_17 rfl (lv_at hl 0 rfl) ?_
  refine g_newO (n := 24) (ci := 4) (C := RX4) (T := TX4) (N := 1) hx hb hts hown [2] inlX4 tyX4 tyX4_ok G hA rfl (by decide +kernel) rfl (fun j hj => by rcases (show j = 0 by omega) with rfl <;> rfl) (by decide) wm_39 wm_21 wm_22 (Nat.le_of_ble_eq_true rfl) (Nat.le_of_ble_eq_true rfl) dX5_init_18 (show _ = WL35 from rfl) (fun g x24 H a24 hg G => ?_)
  have a21 := (hg 21 (Nat.le_of_ble_eq_true rfl)).trans a21
  have a22 := (hg 22 (Nat.le_of_ble_eq_true rfl)).trans a22
  have E : ∀ k, k < 22 → g k = g0 k := fun k hk => (hg k (Nat.lt_of_lt_of_le hk (Nat.le_of_ble_eq_true rfl))).trans (E k hk)
  refine W.widen (k := 3) (n := 102) (Nat.le_of_ble_eq_true rfl) (Nat.le_of_ble_eq_true rfl) ?_
  refine lv_dup hx hb dX5_init_21 rfl ?_
  refine lv_bipush (v := iz 6) hx hb dX5_init_22 (by decide +kernel) ?_
  refine g_callC (n := 1) (rest := [.ref x24, .ref x21]) (n0 := 25) hx hb hml hts hown hNw hao hA G [.int (iz 6)] (c4_init l w _ _ _ 24 6 25 x24 a24 rfl (by decide +kernel) rfl (by decide) (i := 6) rfl (show _ = WL36 from rfl)) rfl wm_45 wm_46 wm_22 wm_47 rfl ⟨by decide +kernel, by decide +kernel, by decide +kernel⟩ ⟨rfl, rfl, (Nat.le_of_ble_eq_true rfl), (Nat.le_of_ble_eq_true rfl)⟩ rfl hl.1 (Nat.le_of_ble_eq_true rfl) rfl dX5_init_24 ⟨(Nat.le_of_ble_eq_true rfl), (Nat.le_of_ble_eq_true rfl)⟩ (fun g H locs hg G => ?_)
  have a21 := (hg 21 (Nat.le_of_ble_eq_true rfl)).trans a21
  have a22 := (hg 22 (Nat.le_of_ble_eq_true rfl)).trans a22
  have a24 := (hg 24 (Nat.le_of_ble_eq_true rfl)).trans a24
  have E : ∀ k, k < 22 → g k = g0 k := fun k hk => (hg k (Nat.lt_of_lt_of_le hk (Nat.le_of_ble_eq_true rfl))).trans (E k hk)
  refine W.widen (k := 4) (n := 108) (Nat.le_of_ble_eq_true rfl) (Nat.le_of_ble_eq_true rfl) ?_
  refine g_putF (k := 21) (ci := 5) (cs := [25, 2, 2, 2, 0]) hx hb hts hown 1 24 inlX5 tyX5 tyX5_ok nmX5 G rfl rfl (by decide) (by decide) wm_41 rfl hin rfl rfl rfl dX5_init_27 a21 a24 (show _ = WL37 from rfl) (fun H locs G => ?_)
  refine lv_aload_n hx hb dX5_init_30 rfl (lv_at hl 0 rfl) ?_
  refine g_newO (n := 26) (ci := 4) (C := RX4) (T := TX4) (N := 1) hx hb hts hown [2] inlX4 tyX4 tyX4_ok G hA rfl (by decide +kernel) rfl (fun j hj => by rcases (show j = 0 by omega) with rfl <;> rfl) (by decide) wm_39 wm_21 wm_22 (Nat.le_of_ble_eq_true rfl) (Nat.le_of_ble_eq_true rfl) dX5_init_31 (show _ = WL38 from rfl) (fun g x26 H a26 hg G => ?_)
  have a21 := (hg 21 (Nat.le_of_ble_eq_true rfl)).trans a21
  have a22 := (hg 22 (Nat.le_of_ble_eq_true rfl)).trans a22
  have a24 := (hg 24 (Nat.le_of_ble_eq_true rfl)).trans a24
  have E : ∀ k, k < 22 → g k = g0 k := fun k hk => (hg k (Nat.lt_of_lt_of_le hk (Nat.le_of_ble_eq_true rfl))).trans (E k hk)
  refine W.widen (k := 5) (n := 109) (Nat.le_of_ble_eq_true rfl) (Nat.le_of_ble_eq_true rfl) ?_
  refine lv_dup hx hb dX5_init_34 rfl ?_
  refine lv_bipush (v := iz 48) hx hb dX5_init_35 (by decide +kernel) ?_
  refine g_callC (n := 1) (rest := [.ref x26, .ref x21]) (n0 := 27) hx hb hml hts hown hNw hao hA G [.int (iz 48)] (c4_init l w _ _ _ 26 48 27 x26 a26 rfl (by decide +kernel) rfl (by decide) (i := 48) rfl (show _ = WL39 from rfl)) rfl wm_45 wm_46 wm_22 wm_47 rfl ⟨by decide +kernel, by decide +kernel, by decide +kernel⟩ ⟨rfl, rfl, (Nat.le_of_ble_eq_true rfl), (Nat.le_of_ble_eq_true rfl)⟩ rfl hl.1 (Nat.le_of_ble_eq_true rfl) rfl dX5_init_37 ⟨(Nat.le_of_ble_eq_true rfl), (Nat.le_of_ble_eq_true rfl)⟩ (fun g H locs hg G => ?_)
  have a21 := (hg 21 (Nat.le_of_ble_eq_true rfl)).trans a21
  have a22 := (hg 22 (Nat.le_of_ble_eq_true rfl)).trans a22
  have a24 := (hg 24 (Nat.le_of_ble_eq_true rfl)).trans a24
  have a26 := (hg 26 (Nat.le_of_ble_eq_true rfl)).trans a26
  have E : ∀ k, k < 22 → g k = g0 k := fun k hk => (hg k (Nat.lt_of_lt_of_le hk (Nat.le_of_ble_eq_true rfl))).trans (E k hk)
  refine W.widen (k := 6) (n := 157) (Nat.le_of_ble_eq_true rfl) (Nat.le_of_ble_eq_true rfl) ?_
  refine g_putF (k := 21) (ci := 5) (cs := [25, 27, 2, 2, 0]) hx hb hts hown 2 26 inlX5 tyX5 tyX5_ok nmX5 G rfl rfl (by decide) (by decide) wm_42 rfl hin rfl rfl rfl dX5_init_40 a21 a26 (show _ = WL40 from rfl) (fun H locs G => ?_)
  refine lv_aload_n hx hb dX5_init_43 rfl (lv_at hl 0 rfl) ?_
  refine g_newO (n := 28) (ci := 4) (C := RX4) (T := TX4) (N := 1) hx hb hts hown [2] inlX4 tyX4 tyX4_ok G hA rfl (by decide +kernel) rfl (fun j hj => by rcases (show j = 0 by omega) with rfl <;> rfl) (by decide) wm_39 wm_21 wm_22 (Nat.le_of_ble_eq_true rfl) (Nat.le_of_ble_eq_true rfl) dX5_init_44 (show _ = WL41 from rfl) (fun g x28 H a28 hg G => ?_)
  have a21 := (hg 21 (Nat.le_of_ble_eq_true rfl)).trans a21
  have a22 := (hg 22 (Nat.le_of_ble_eq_true rfl)).trans a22
  have a24 := (hg 24 (Nat.le_of_ble_eq_true rfl)).trans a24
  have a26 := (hg 26 (Nat.le_of_ble_eq_true rfl)).trans a26
  have E : ∀ k, k < 22 → g k = g0 k := fun k hk => (hg k (Nat.lt_of_lt_of_le hk (Nat.le_of_ble_eq_true rfl))).trans (E k hk)
  refine W.widen (k := 7) (n := 158) (Nat.le_of_ble_eq_true rfl) (Nat.le_of_ble_eq_true rfl) ?_
  refine lv_dup hx hb dX5_init_47 rfl ?_
  refine lv_bipush (v := iz 6) hx hb dX5_init_48 (by decide +kernel) ?_
  refine g_callC (n := 1) (rest := [.ref x28, .ref x21]) (n0 := 29) hx hb hml hts hown hNw hao hA G [.int (iz 6)] (c4_init l w _ _ _ 28 6 29 x28 a28 rfl (by decide +kernel) rfl (by decide) (i := 6) rfl (show _ = WL42 from rfl)) rfl wm_45 wm_46 wm_22 wm_47 rfl ⟨by decide +kernel, by decide +kernel, by decide +kernel⟩ ⟨rfl, rfl, (Nat.le_of_ble_eq_true rfl), (Nat.le_of_ble_eq_true rfl)⟩ rfl hl.1 (Nat.le_of_ble_eq_true rfl) rfl dX5_init_50 ⟨(Nat.le_of_ble_eq_true rfl), (Nat.le_of_ble_eq_true rfl)⟩ (fun g H locs hg G => ?_)
  have a21 := (hg 21 (Nat.le_of_ble_eq_true rfl)).trans a21
  have a22 := (hg 22 (Nat.le_of_ble_eq_true rfl)).trans a22
  have a24 := (hg 24 (Nat.le_of_ble_eq_true rfl)).trans a24
  have a26 := (hg 26 (Nat.le_of_ble_eq_true rfl)).trans a26
  have a28 := (hg 28 (Nat.le_of_ble_eq_true rfl)).trans a28
  have E : ∀ k, k < 22 → g k = g0 k := fun k hk => (hg k (Nat.lt_of_lt_of_le hk (Nat.le_of_ble_eq_true rfl))).trans (E k hk)
  refine W.widen (k := 8) (n := 164) (Nat.le_of_ble_eq_true rfl) (Nat.le_of_ble_eq_true rfl) ?_
  refine g_putF (k := 21) (ci := 5) (cs := [25, 27, 29, 2, 0]) hx hb hts hown 3 28 inlX5 tyX5 tyX5_ok nmX5 G rfl rfl (by decide) (by decide) wm_43 rfl hin rfl rfl rfl dX5_init_53 a21 a28 (show _ = WL43 from rfl) (fun H locs G => ?_)
  refine lv_aload_n hx hb dX5_init_56 rfl (lv_at hl 0 rfl) ?_
  refine lv_iconst (v := iz 0) hx hb dX5_init_57 rfl ?_
  refine g_putA (k := 21) (ci := 5) (cs := [25, 27, 29, 31, 0]) hx hb hts hown 4 inlX5 tyX5 tyX5_ok nmX5 G rfl rfl (by decide) rfl wm_44 rfl rfl rfl dX5_init_58 a21 (fun H locs G => ?_)
  refine lv_aload_n hx hb dX5_init_61 rfl (lv_at hl 0 rfl) ?_
  refine g_getA (k := 21) (ci := 5) (cs := [25, 27, 29, 31, 0]) hx hb hts hown 3 28 inlX5 G rfl rfl (by decide) rfl wm_43 dX5_init_62 a21 a28 ?_
  refine lv_iconst (v := iz (-1)) hx hb dX5_init_65 rfl ?_
  refine g_callVv (w := gw w g) (rest := []) hx hb hml hts hown hNw hA G [.int (iz (-1))] (cS_X4_fill WL43 l (gw w g) _ _ 28 6 ⟨rfl, rfl⟩ (by decide) (-1) trivial) (show WL43[28]? = some (1, 4, [32]) from rfl) rfl wm_51 wm_52 wm_53 wm_22 wm_54 hd_X4_fill ⟨rfl, rfl, (Nat.le_of_ble_eq_true rfl), (Nat.le_of_ble_eq_true rfl)⟩ rfl hl.1 (Nat.le_of_ble_eq_true rfl) (by show _ = [Value.int (iz (-1)), Value.ref (g 28)]; rw [a28]) dX5_init_66 ⟨(Nat.le_of_ble_eq_true rfl), (Nat.le_of_ble_eq_true rfl)⟩ (fun s1 H locs h G => ?_)
  rw [h] at G
  exact g_cret (n0 := 22) hx hb hr hlk rfl hz E G (Nat.le_of_ble_eq_true rfl) (Nat.le_of_ble_eq_true rfl) dX5_init_69
def WL44 : List Sh := [(1, 6, [4, 2, 2, 2, 2, 2, 0, 0]), (1, 5, [5, 7, 9, 11, 0]), (1, 4, [6]), (0, 100, []), (1, 4, [8]), (0, 6, []), (1, 4, [10]), (0, 48, []), (1, 4, [12]), (0, 6, []), (1, 1, [2, 0, 0]), (2, 4, [15, 24, 2, 2]), (1, 5, [16, 18, 20, 22, 0]), (1, 4, [17]), (0, 100, []), (1, 4, [19]), (0, 6, []), (1, 4, [21]), (0, 48, []), (1, 4, [23]), (0, 6, []), (1, 5, [25, 27, 29, 31, 0]), (1, 4, [26]), (0, 100, []), (1, 4, [28]), (0, 6, []), (1, 4, [30]), (0, 48, []), (1, 4, [32]), (0, 6, [])]
def WL45 : List Sh := [(1, 6, [4, 2, 2, 2, 2, 2, 0, 0]), (1, 5, [5, 7, 9, 11, 0]), (1, 4, [6]), (0, 100, []), (1, 4, [8]), (0, 6, []), (1, 4, [10]), (0, 48, []), (1, 4, [12]), (0, 6, []), (1, 1, [2, 0, 0]), (2, 4, [15, 24, 2, 2]), (1, 5, [16, 18, 20, 22, 0]), (1, 4, [17]), (0, 100, []), (1, 4, [19]), (0, 6, []), (1, 4, [21]), (0, 48, []), (1, 4, [23]), (0, 6, []), (1, 5, [25, 27, 29, 31, 0]), (1, 4, [26]), (0, 100, []), (1, 4, [28]), (0, 6, []), (1, 4, [30]), (0, 48, []), (1, 4, [32]), (0, 6, []), (1, 5, [2, 2, 2, 2, 0])]
def WL46 : List Sh := [(1, 6, [4, 2, 2, 2, 2, 2, 0, 0]), (1, 5, [5, 7, 9, 11, 0]), (1, 4, [6]), (0, 100, []), (1, 4, [8]), (0, 6, []), (1, 4, [10]), (0, 48, []), (1, 4, [12]), (0, 6, []), (1, 1, [2, 0, 0]), (2, 4, [15, 24, 2, 2]), (1, 5, [16, 18, 20, 22, 0]), (1, 4, [17]), (0, 100, []), (1, 4, [19]), (0, 6, []), (1, 4, [21]), (0, 48, []), (1, 4, [23]), (0, 6, []), (1, 5, [25, 27, 29, 31, 0]), (1, 4, [26]), (0, 100, []), (1, 4, [28]), (0, 6, []), (1, 4, [30]), (0, 48, []), (1, 4, [32]), (0, 6, []), (1, 5, [2, 2, 2, 2, 0]), (1, 4, [2])]
def WL47 : List Sh := [(1, 6, [4, 2, 2, 2, 2, 2, 0, 0]), (1, 5, [5, 7, 9, 11, 0]), (1, 4, [6]), (0, 100, []), (1, 4, [8]), (0, 6, []), (1, 4, [10]), (0, 48, []), (1, 4, [12]), (0, 6, []), (1, 1, [2, 0, 0]), (2, 4, [15, 24, 2, 2]), (1, 5, [16, 18, 20, 22, 0]), (1, 4, [17]), (0, 100, []), (1, 4, [19]), (0, 6, []), (1, 4, [21]), (0, 48, []), (1, 4, [23]), (0, 6, []), (1, 5, [25, 27, 29, 31, 0]), (1, 4, [26]), (0, 100, []), (1, 4, [28]), (0, 6, []), (1, 4, [30]), (0, 48, []), (1, 4, [32]), (0, 6, []), (1, 5, [2, 2, 2, 2, 0]), (1, 4, [35]), (0, 100, [])]
def WL48 : List Sh := [(1, 6, [4, 2, 2, 2, 2, 2, 0, 0]), (1, 5, [5, 7, 9, 11, 0]), (1, 4, [6]), (0, 100, []), (1, 4, [8]), (0, 6, []), (1, 4, [10]), (0, 48, []), (1, 4, [12]), (0, 6, []), (1, 1, [2, 0, 0]), (2, 4, [15, 24, 2, 2]), (1, 5, [16, 18, 20, 22, 0]), (1, 4, [17]), (0, 100, []), (1, 4, [19]), (0, 6, []), (1, 4, [21]), (0, 48, []), (1, 4, [23]), (0, 6, []), (1, 5, [25, 27, 29, 31, 0]), (1, 4, [26]), (0, 100, []), (1, 4, [28]), (0, 6, []), (1, 4, [30]), (0, 48, []), (1, 4, [32]), (0, 6, []), (1, 5, [34, 2, 2, 2, 0]), (1, 4, [35]), (0, 100, [])]
def WL49 : List Sh := [(1, 6, [4, 2, 2, 2, 2, 2, 0, 0]), (1, 5, [5, 7, 9, 11, 0]), (1, 4, [6]), (0, 100, []), (1, 4, [8]), (0, 6, []), (1, 4, [10]), (0, 48, []), (1, 4, [12]), (0, 6, []), (1, 1, [2, 0, 0]), (2, 4, [15, 24, 2, 2]), (1, 5, [16, 18, 20, 22, 0]), (1, 4, [17]), (0, 100, []), (1, 4, [19]), (0, 6, []), (1, 4, [21]), (0, 48, []), (1, 4, [23]), (0, 6, []), (1, 5, [25, 27, 29, 31, 0]), (1, 4, [26]), (0, 100, []), (1, 4, [28]), (0, 6, []), (1, 4, [30]), (0, 48, []), (1, 4, [32]), (0, 6, []), (1, 5, [34, 2, 2, 2, 0]), (1, 4, [35]), (0, 100, []), (1, 4, [2])]
def WL50 : List Sh := [(1, 6, [4, 2, 2, 2, 2, 2, 0, 0]), (1, 5, [5, 7, 9, 11, 0]), (1, 4, [6]), (0, 100, []), (1, 4, [8]), (0, 6, []), (1, 4, [10]), (0, 48, []), (1, 4, [12]), (0, 6, []), (1, 1, [2, 0, 0]), (2, 4, [15, 24, 2, 2]), (1, 5, [16, 18, 20, 22, 0]), (1, 4, [17]), (0, 100, []), (1, 4, [19]), (0, 6, []), (1, 4, [21]), (0, 48, []), (1, 4, [23]), (0, 6, []), (1, 5, [25, 27, 29, 31, 0]), (1, 4, [26]), (0, 100, []), (1, 4, [28]), (0, 6, []), (1, 4, [30]), (0, 48, []), (1, 4, [32]), (0, 6, []), (1, 5, [34, 2, 2, 2, 0]), (1, 4, [35]), (0, 100, []), (1, 4, [37]), (0, 6, [])]
def WL51 : List Sh := [(1, 6, [4, 2, 2, 2, 2, 2, 0, 0]), (1, 5, [5, 7, 9, 11, 0]), (1, 4, [6]), (0, 100, []), (1, 4, [8]), (0, 6, []), (1, 4, [10]), (0, 48, []), (1, 4, [12]), (0, 6, []), (1, 1, [2, 0, 0]), (2, 4, [15, 24, 2, 2]), (1, 5, [16, 18, 20, 22, 0]), (1, 4, [17]), (0, 100, []), (1, 4, [19]), (0, 6, []), (1, 4, [21]), (0, 48, []), (1, 4, [23]), (0, 6, []), (1, 5, [25, 27, 29, 31, 0]), (1, 4, [26]), (0, 100, []), (1, 4, [28]), (0, 6, []), (1, 4, [30]), (0, 48, []), (1, 4, [32]), (0, 6, []), (1, 5, [34, 36, 2, 2, 0]), (1, 4, [35]), (0, 100, []), (1, 4, [37]), (0, 6, [])]
def WL52 : List Sh := [(1, 6, [4, 2, 2, 2, 2, 2, 0, 0]), (1, 5, [5, 7, 9, 11, 0]), (1, 4, [6]), (0, 100, []), (1, 4, [8]), (0, 6, []), (1, 4, [10]), (0, 48, []), (1, 4, [12]), (0, 6, []), (1, 1, [2, 0, 0]), (2, 4, [15, 24, 2, 2]), (1, 5, [16, 18, 20, 22, 0]), (1, 4, [17]), (0, 100, []), (1, 4, [19]), (0, 6, []), (1, 4, [21]), (0, 48, []), (1, 4, [23]), (0, 6, []), (1, 5, [25, 27, 29, 31, 0]), (1, 4, [26]), (0, 100, []), (1, 4, [28]), (0, 6, []), (1, 4, [30]), (0, 48, []), (1, 4, [32]), (0, 6, []), (1, 5, [34, 36, 2, 2, 0]), (1, 4, [35]), (0, 100, []), (1, 4, [37]), (0, 6, []), (1, 4, [2])]
def WL53 : List Sh := [(1, 6, [4, 2, 2, 2, 2, 2, 0, 0]), (1, 5, [5, 7, 9, 11, 0]), (1, 4, [6]), (0, 100, []), (1, 4, [8]), (0, 6, []), (1, 4, [10]), (0, 48, []), (1, 4, [12]), (0, 6, []), (1, 1, [2, 0, 0]), (2, 4, [15, 24, 2, 2]), (1, 5, [16, 18, 20, 22, 0]), (1, 4, [17]), (0, 100, []), (1, 4, [19]), (0, 6, []), (1, 4, [21]), (0, 48, []), (1, 4, [23]), (0, 6, []), (1, 5, [25, 27, 29, 31, 0]), (1, 4, [26]), (0, 100, []), (1, 4, [28]), (0, 6, []), (1, 4, [30]), (0, 48, []), (1, 4, [32]), (0, 6, []), (1, 5, [34, 36, 2, 2, 0]), (1, 4, [35]), (0, 100, []), (1, 4, [37]), (0, 6, []), (1, 4, [39]), (0, 48, [])]
def WL54 : List Sh := [(1, 6, [4, 2, 2, 2, 2, 2, 0, 0]), (1, 5, [5, 7, 9, 11, 0]), (1, 4, [6]), (0, 100, []), (1, 4, [8]), (0, 6, []), (1, 4, [10]), (0, 48, []), (1, 4, [12]), (0, 6, []), (1, 1, [2, 0, 0]), (2, 4, [15, 24, 2, 2]), (1, 5, [16, 18, 20, 22, 0]), (1, 4, [17]), (0, 100, []), (1, 4, [19]), (0, 6, []), (1, 4, [21]), (0, 48, []), (1, 4, [23]), (0, 6, []), (1, 5, [25, 27, 29, 31, 0]), (1, 4, [26]), (0, 100, []), (1, 4, [28]), (0, 6, []), (1, 4, [30]), (0, 48, []), (1, 4, [32]), (0, 6, []), (1, 5, [34, 36, 38, 2, 0]), (1, 4, [35]), (0, 100, []), (1, 4, [37]), (0, 6, []), (1, 4, [39]), (0, 48, [])]
def WL55 : List Sh := [(1, 6, [4, 2, 2, 2, 2, 2, 0, 0]), (1, 5, [5, 7, 9, 11, 0]), (1, 4, [6]), (0, 100, []), (1, 4, [8]), (0, 6, []), (1, 4, [10]), (0, 48, []), (1, 4, [12]), (0, 6, []), (1, 1, [2, 0, 0]), (2, 4, [15, 24, 2, 2]), (1, 5, [16, 18, 20, 22, 0]), (1, 4, [17]), (0, 100, []), (1, 4, [19]), (0, 6, []), (1, 4, [21]), (0, 48, []), (1, 4, [23]), (0, 6, []), (1, 5, [25, 27, 29, 31, 0]), (1, 4, [26]), (0, 100, []), (1, 4, [28]), (0, 6, []), (1, 4, [30]), (0, 48, []), (1, 4, [32]), (0, 6, []), (1, 5, [34, 36, 38, 2, 0]), (1, 4, [35]), (0, 100, []), (1, 4, [37]), (0, 6, []), (1, 4, [39]), (0, 48, []), (1, 4, [2])]
def WL56 : List Sh := [(1, 6, [4, 2, 2, 2, 2, 2, 0, 0]), (1, 5, [5, 7, 9, 11, 0]), (1, 4, [6]), (0, 100, []), (1, 4, [8]), (0, 6, []), (1, 4, [10]), (0, 48, []), (1, 4, [12]), (0, 6, []), (1, 1, [2, 0, 0]), (2, 4, [15, 24, 2, 2]), (1, 5, [16, 18, 20, 22, 0]), (1, 4, [17]), (0, 100, []), (1, 4, [19]), (0, 6, []), (1, 4, [21]), (0, 48, []), (1, 4, [23]), (0, 6, []), (1, 5, [25, 27, 29, 31, 0]), (1, 4, [26]), (0, 100, []), (1, 4, [28]), (0, 6, []), (1, 4, [30]), (0, 48, []), (1, 4, [32]), (0, 6, []), (1, 5, [34, 36, 38, 2, 0]), (1, 4, [35]), (0, 100, []), (1, 4, [37]), (0, 6, []), (1, 4, [39]), (0, 48, []), (1, 4, [41]), (0, 6, [])]
def WL57 : List Sh := [(1, 6, [4, 2, 2, 2, 2, 2, 0, 0]), (1, 5, [5, 7, 9, 11, 0]), (1, 4, [6]), (0, 100, []), (1, 4, [8]), (0, 6, []), (1, 4, [10]), (0, 48, []), (1, 4, [12]), (0, 6, []), (1, 1, [2, 0, 0]), (2, 4, [15, 24, 2, 2]), (1, 5, [16, 18, 20, 22, 0]), (1, 4, [17]), (0, 100, []), (1, 4, [19]), (0, 6, []), (1, 4, [21]), (0, 48, []), (1, 4, [23]), (0, 6, []), (1, 5, [25, 27, 29, 31, 0]), (1, 4, [26]), (0, 100, []), (1, 4, [28]), (0, 6, []), (1, 4, [30]), (0, 48, []), (1, 4, [32]), (0, 6, []), (1, 5, [34, 36, 38, 40, 0]), (1, 4, [35]), (0, 100, []), (1, 4, [37]), (0, 6, []), (1, 4, [39]), (0, 48, []), (1, 4, [41]), (0, 6, [])]
def sg_State_30 (σ : St) : St := (eff_X4_fill 37 6 (-1) (up (ur (ur (ur (ur (ur (ur (ur (ur σ 31 (fun _ => 0)) 32 (fun _ => 0)) 33 (fun _ => 0)) 34 (fun _ => 0)) 35 (fun _ => 0)) 36 (fun _ => 0)) 37 (fun _ => 0)) 38 (fun _ => 0)) 30 4 0))
abbrev rc_State_30 : Room := ({ frames := 2, cells := 8, slots := 164, locals := 33 } : Room)
set_option maxHeartbeats 4000000 in
set_option maxRecDepth 100000 in
theorem cc_State_30 (l : Launch) (w : GW) (g0 : Nat → Nat) (σ : St) (sz : Nat) (x30 : Nat) (a30 : g0 30 = x30) : Met l yX5_init (Cond.code yX5_init cX5_init 1 none :: wsL_law) rc_State_30 (gPcC (gw w g0) WL45 σ sz [.ref x30]) (gQc w g0 WL45.length sz WL57 (sg_State_30 σ)) 8 164 (gA (gw w g0) WL45.length sz) := by
  refine g_metC (by decide) [.ref x30] (Nat.le_of_ble_eq_true rfl) ?_
  intro p e s m below meth c ls hz C0 hin hao hl G
  obtain ⟨hx, hb, hr, hml, hown, hts, hlk, hNw, hA⟩ := id C0
  have hown : s.vm.findClass RX5 = some m.cls := hown
  have hl : lv_has ls 1 [(0, .ref x30)] := hl
  have E : ∀ k, k < 31 → g0 k = g0 k := fun _ _ => rfl
  refine lv_aload_n hx hb dX5_init_0 rfl (lv_at hl 0 rfl) ?_
  refine g_objI hx hb hml hts hown wm_38 wm_10 wm_11 hl.1 (Nat.le_of_ble_eq_true rfl) (Nat.le_of_ble_eq_true rfl) dX5_init_1 ?_
  refine lv_aload_n hx hb dX5_init_4 rfl (lv_at hl 0 rfl) ?_
  refine g_newO (n := 31) (ci := 4) (C := RX4) (T := TX4) (N := 1) hx hb hts hown [2] inlX4 tyX4 tyX4_ok G hA rfl (by decide +kernel) rfl (fun j hj => by rcases (show j = 0 by omega) with rfl <;> rfl) (by decide) wm_39 wm_21 wm_22 (Nat.le_of_ble_eq_true rfl) (Nat.le_of_ble_eq_true rfl) dX5_init_5 (show _ = WL46 from rfl) (fun g x31 H a31 hg G => ?_)
  have a30 := (hg 30 (Nat.le_of_ble_eq_true rfl)).trans a30
  have E : ∀ k, k < 31 → g k = g0 k := fun k hk => (hg k (Nat.lt_of_lt_of_le hk (Nat.le_of_ble_eq_true rfl))).trans (E k hk)
  refine W.widen (k := 1) (n := 1) (Nat.le_of_ble_eq_true rfl) (Nat.le_of_ble_eq_true rfl) ?_
  refine lv_dup hx hb dX5_init_8 rfl ?_
  refine lv_bipush (v := iz 100) hx hb dX5_init_9 (by decide +kernel) ?_
  refine g_callC (n := 1) (rest := [.ref x31, .ref x30]) (n0 := 32) hx hb hml hts hown hNw hao hA G [.int (iz 100)] (c4_init l w _ _ _ 31 100 32 x31 a31 rfl (by decide +kernel) rfl (by decide) (i := 100) rfl (show _ = WL47 from rfl)) rfl wm_45 wm_46 wm_22 wm_47 rfl ⟨by decide +kernel, by decide +kernel, by decide +kernel⟩ ⟨rfl, rfl, (Nat.le_of_ble_eq_true rfl), (Nat.le_of_ble_eq_true rfl)⟩ rfl hl.1 (Nat.le_of_ble_eq_true rfl) rfl dX5_init_11 ⟨(Nat.le_of_ble_eq_true rfl), (Nat.le_of_ble_eq_true rfl)⟩ (fun g H locs hg G => ?_)
  have a30 := (hg 30 (Nat.le_of_ble_eq_true rfl)).trans a30
  have a31 := (hg 31 (Nat.le_of_ble_eq_true rfl)).trans a31
  have E : ∀ k, k < 31 → g k = g0 k := fun k hk => (hg k (Nat.lt_of_lt_of_le hk (Nat.le_of_ble_eq_true rfl))).trans (E k hk)
  refine W.widen (k := 2) (n := 101) (Nat.le_of_ble_eq_true rfl) (Nat.le_of_ble_eq_true rfl) ?_
  refine g_putF (k := 30) (ci := 5) (cs := [2, 2, 2, 2, 0]) hx hb hts hown 0 31 inlX5 tyX5 tyX5_ok nmX5 G rfl rfl (by decide) (by decide) wm_40 rfl hin rfl rfl rfl dX5_init_14 a30 a31 (show _ = WL48 from rfl) (fun H locs G => ?_)
  refine lv_aload_n hx hb dX5_init_17 rfl (lv_at hl 0 rfl) ?_
  refine g_newO (n := 33) (ci := 4) (C := RX4) (T := TX4) (N := 1) hx hb hts hown [2] inlX4 tyX4 tyX4_ok G hA rfl (by decide +kernel) rfl (fun j hj => by rcases (show j = 0 by omega) with rfl <;> rfl) (by decide) wm_39 wm_21 wm_22 (Nat.le_of_ble_eq_true rfl) (Nat.le_of_ble_eq_true rfl) dX5_init_18 (show _ = WL49 from rfl) (fun g x33 H a33 hg G => ?_)
  have a30 := (hg 30 (Nat.le_of_ble_eq_true rfl)).trans a30
  have a31 := (hg 31 (Nat.le_of_ble_eq_true rfl)).trans a31
  have E : ∀ k, k < 31 → g k = g0 k := fun k hk => (hg k (Nat.lt_of_lt_of_le hk (Nat.le_of_ble_eq_true rfl))).trans (E k hk)
  refine W.widen (k := 3) (n := 102) (Nat.le_of_ble_eq_true rfl) (Nat.le_of_ble_eq_true rfl) ?_
  refine lv_dup hx hb dX5_init_21 rfl ?_
  refine lv_bipush (v := iz 6) hx hb dX5_init_22 (by decide +kernel) ?_
  refine g_callC (n := 1) (rest := [.ref x33, .ref x30]) (n0 := 34) hx hb hml hts hown hNw hao hA G [.int (iz 6)] (c4_init l w _ _ _ 33 6 34 x33 a33 rfl (by decide +kernel) rfl (by decide) (i := 6) rfl (show _ = WL50 from rfl)) rfl wm_45 wm_46 wm_22 wm_47 rfl ⟨by decide +kernel, by decide +kernel, by decide +kernel⟩ ⟨rfl, rfl, (Nat.le_of_ble_eq_true rfl), (Nat.le_of_ble_eq_true rfl)⟩ rfl hl.1 (Nat.le_of_ble_eq_true rfl) rfl dX5_init_24 ⟨(Nat.le_of_ble_eq_true rfl), (Nat.le_of_ble_eq_true rfl)⟩ (fun g H locs hg G => ?_)
  have a30 := (hg 30 (Nat.le_of_ble_eq_true rfl)).trans a30
  have a31 := (hg 31 (Nat.le_of_ble_eq_true rfl)).trans a31
  have a33 := (hg 33 (Nat.le_of_ble_eq_true rfl)).trans a33
  have E : ∀ k, k < 31 → g k = g0 k := fun k hk => (hg k (Nat.lt_of_lt_of_le hk (Nat.le_of_ble_eq_true rfl))).trans (E k hk)
  refine W.widen (k := 4) (n := 108) (Nat.le_of_ble_eq_true rfl) (Nat.le_of_ble_eq_true rfl) ?_
  refine g_putF (k := 30) (ci := 5) (cs := [34, 2, 2, 2, 0]) hx hb hts hown 1 33 inlX5 tyX5 tyX5_ok nmX5 G rfl rfl (by decide) (by decide) wm_41 rfl hin rfl rfl rfl dX5_init_27 a30 a33 (show _ = WL51 from rfl) (fun H locs G => ?_)
  refine lv_aload_n hx hb dX5_init_30 rfl (lv_at hl 0 rfl) ?_
  refine g_newO (n := 35) (ci := 4) (C := RX4) (T := TX4) (N := 1) hx hb hts hown [2] inlX4 tyX4 tyX4_ok G hA rfl (by decide +kernel) rfl (fun j hj => by rcases (show j = 0 by omega) with rfl <;> rfl) (by decide) wm_39 wm_21 wm_22 (Nat.le_of_ble_eq_true rfl) (Nat.le_of_ble_eq_true rfl) dX5_init_31 (show _ = WL52 from rfl) (fun g x35 H a35 hg G => ?_)
  have a30 := (hg 30 (Nat.le_of_ble_eq_true rfl)).trans a30
  have a31 := (hg 31 (Nat.le_of_ble_eq_true rfl)).trans a31
  have a33 := (hg 33 (Nat.le_of_ble_eq_true rfl)).trans a33
  have E : ∀ k, k < 31 → g k = g0 k := fun k hk => (hg k (Nat.lt_of_lt_of_le hk (Nat.le_of_ble_eq_true rfl))).trans (E k hk)
  refine W.widen (k := 5) (n := 109) (Nat.le_of_ble_eq_true rfl) (Nat.le_of_ble_eq_true rfl) ?_
  refine lv_dup hx hb dX5_init_34 rfl ?_
  refine lv_bipush (v := iz 48) hx hb dX5_init_35 (by decide +kernel) ?_
  refine g_callC (n := 1) (rest := [.ref x35, .ref x30]) (n0 := 36) hx hb hml hts hown hNw hao hA G [.int (iz 48)] (c4_init l w _ _ _ 35 48 36 x35 a35 rfl (by decide +kernel) rfl (by decide) (i := 48) rfl (show _ = WL53 from rfl)) rfl wm_45 wm_46 wm_22 wm_47 rfl ⟨by decide +kernel, by decide +kernel, by decide +kernel⟩ ⟨rfl, rfl, (Nat.le_of_ble_eq_true rfl), (Nat.le_of_ble_eq_true rfl)⟩ rfl hl.1 (Nat.le_of_ble_eq_true rfl) rfl dX5_init_37 ⟨(Nat.le_of_ble_eq_true rfl), (Nat.le_of_ble_eq_true rfl)⟩ (fun g H locs hg G => ?_)
  have a30 := (hg 30 (Nat.le_of_ble_eq_true rfl)).trans a30
  have a31 := (hg 31 (Nat.le_of_ble_eq_true rfl)).trans a31
  have a33 := (hg 33 (Nat.le_of_ble_eq_true rfl)).trans a33
  have a35 := (hg 35 (Nat.le_of_ble_eq_true rfl)).trans a35
  have E : ∀ k, k < 31 → g k = g0 k := fun k hk => (hg k (Nat.lt_of_lt_of_le hk (Nat.le_of_ble_eq_true rfl))).trans (E k hk)
  refine W.widen (k := 6) (n := 157) (Nat.le_of_ble_eq_true rfl) (Nat.le_of_ble_eq_true rfl) ?_
  refine g_putF (k := 30) (ci := 5) (cs := [34, 36, 2, 2, 0]) hx hb hts hown 2 35 inlX5 tyX5 tyX5_ok nmX5 G rfl rfl (by decide) (by decide) wm_42 rfl hin rfl rfl rfl dX5_init_40 a30 a35 (show _ = WL54 from rfl) (fun H locs G => ?_)
  refine lv_aload_n hx hb dX5_init_43 rfl (lv_at hl 0 rfl) ?_
  refine g_newO (n := 37) (ci := 4) (C := RX4) (T := TX4) (N := 1) hx hb hts hown [2] inlX4 tyX4 tyX4_ok G hA rfl (by decide +kernel) rfl (fun j hj => by rcases (show j = 0 by omega) with rfl <;> rfl) (by decide) wm_39 wm_21 wm_22 (Nat.le_of_ble_eq_true rfl) (Nat.le_of_ble_eq_true rfl) dX5_init_44 (show _ = WL55 from rfl) (fun g x37 H a37 hg G => ?_)
  have a30 := (hg 30 (Nat.le_of_ble_eq_true rfl)).trans a30
  have a31 := (hg 31 (Nat.le_of_ble_eq_true rfl)).trans a31
  have a33 := (hg 33 (Nat.le_of_ble_eq_true rfl)).trans a33
  have a35 := (hg 35 (Nat.le_of_ble_eq_true rfl)).trans a35
  have E : ∀ k, k < 31 → g k = g0 k := fun k hk => (hg k (Nat.lt_of_lt_of_le hk (Nat.le_of_ble_eq_true rfl))).trans (E k hk)
  refine W.widen (k := 7) (n := 158) (Nat.le_of_ble_eq_true rfl) (Nat.le_of_ble_eq_true rfl) ?_
  refine lv_dup hx hb dX5_init_47 rfl ?_
  refine lv_bipush (v := iz 6) hx hb dX5_init_48 (by decide +kernel) ?_
  refine g_callC (n := 1) (rest := [.ref x37, .ref x30]) (n0 := 38) hx hb hml hts hown hNw hao hA G [.int (iz 6)] (c4_init l w _ _ _ 37 6 38 x37 a37 rfl (by decide +kernel) rfl (by decide) (i := 6) rfl (show _ = WL56 from rfl)) rfl wm_45 wm_46 wm_22 wm_47 rfl ⟨by decide +kernel, by decide +kernel, by decide +kernel⟩ ⟨rfl, rfl, (Nat.le_of_ble_eq_true rfl), (Nat.le_of_ble_eq_true rfl)⟩ rfl hl.1 (Nat.le_of_ble_eq_true rfl) rfl dX5_init_50 ⟨(Nat.le_of_ble_eq_true rfl), (Nat.le_of_ble_eq_true rfl)⟩ (fun g H locs hg G => ?_)
  have a30 := (hg 30 (Nat.le_of_ble_eq_true rfl)).trans a30
  have a31 := (hg 31 (Nat.le_of_ble_eq_true rfl)).trans a31
  have a33 := (hg 33 (Nat.le_of_ble_eq_true rfl)).trans a33
  have a35 := (hg 35 (Nat.le_of_ble_eq_true rfl)).trans a35
  have a37 := (hg 37 (Nat.le_of_ble_eq_true rfl)).trans a37
  have E : ∀ k, k < 31 → g k = g0 k := fun k hk => (hg k (Nat.lt_of_lt_of_le hk (Nat.le_of_ble_eq_true rfl))).trans (E k hk)
  refine W.widen (k := 8) (n := 164) (Nat.le_of_ble_eq_true rfl) (Nat.le_of_ble_eq_true rfl) ?_
  refine g_putF (k := 30) (ci := 5) (cs := [34, 36, 38, 2, 0]) hx hb hts hown 3 37 inlX5 tyX5 tyX5_ok nmX5 G rfl rfl (by decide) (by decide) wm_43 rfl hin rfl rfl rfl dX5_init_53 a30 a37 (show _ = WL57 from rfl) (fun H locs G => ?_)
  refine lv_aload_n hx hb dX5_init_56 rfl (lv_at hl 0 rfl) ?_
  refine lv_iconst (v := iz 0) hx hb dX5_init_57 rfl ?_
  refine g_putA (k := 30) (ci := 5) (cs := [34, 36, 38, 40, 0]) hx hb hts hown 4 inlX5 tyX5 tyX5_ok nmX5 G rfl rfl (by decide) rfl wm_44 rfl rfl rfl dX5_init_58 a30 (fun H locs G => ?_)
  refine lv_aload_n hx hb dX5_init_61 rfl (lv_at hl 0 rfl) ?_
  refine g_getA (k := 30) (ci := 5) (cs := [34, 36, 38, 40, 0]) hx hb hts hown 3 37 inlX5 G rfl rfl (by decide) rfl wm_43 dX5_init_62 a30 a37 ?_
  refine lv_iconst (v := iz (-1)) hx hb dX5_init_65 rfl ?_
  refine g_callVv (w := gw w g) (rest := []) hx hb hml hts hown hNw hA G [.int (iz (-1))] (cS_X4_fill WL57 l (gw w g) _ _ 37 6 ⟨rfl, rfl⟩ (by decide) (-1) trivial) (show WL57[37]? = some (1, 4, [41]) from rfl) rfl wm_51 wm_52 wm_53 wm_22 wm_54 hd_X4_fill ⟨rfl, rfl, (Nat.le_of_ble_eq_true rfl), (Nat.le_of_ble_eq_true rfl)⟩ rfl hl.1 (Nat.le_of_ble_eq_true rfl) (by show _ = [Value.int (iz (-1)), Value.ref (g 37)]; rw [a37]) dX5_init_66 ⟨(Nat.le_of_ble_eq_true rfl), (Nat.le_of_ble_eq_true rfl)⟩ (fun s1 H locs h G => ?_)
  rw [h] at G
  exact g_cret (n0 := 31) hx hb hr hlk rfl hz E G (Nat.le_of_ble_eq_true rfl) (Nat.le_of_ble_eq_true rfl) dX5_init_69
def WL58 : List Sh := [(1, 6, [4, 2, 2, 2, 2, 2, 0, 0]), (1, 5, [5, 7, 9, 11, 0]), (1, 4, [6]), (0, 100, []), (1, 4, [8]), (0, 6, []), (1, 4, [10]), (0, 48, []), (1, 4, [12]), (0, 6, []), (1, 1, [2, 0, 0]), (2, 4, [15, 24, 33, 2]), (1, 5, [16, 18, 20, 22, 0]), (1, 4, [17]), (0, 100, []), (1, 4, [19]), (0, 6, []), (1, 4, [21]), (0, 48, []), (1, 4, [23]), (0, 6, []), (1, 5, [25, 27, 29, 31, 0]), (1, 4, [26]), (0, 100, []), (1, 4, [28]), (0, 6, []), (1, 4, [30]), (0, 48, []), (1, 4, [32]), (0, 6, []), (1, 5, [34, 36, 38, 40, 0]), (1, 4, [35]), (0, 100, []), (1, 4, [37]), (0, 6, []), (1, 4, [39]), (0, 48, []), (1, 4, [41]), (0, 6, [])]
def WL59 : List Sh := [(1, 6, [4, 2, 2, 2, 2, 2, 0, 0]), (1, 5, [5, 7, 9, 11, 0]), (1, 4, [6]), (0, 100, []), (1, 4, [8]), (0, 6, []), (1, 4, [10]), (0, 48, []), (1, 4, [12]), (0, 6, []), (1, 1, [2, 0, 0]), (2, 4, [15, 24, 33, 2]), (1, 5, [16, 18, 20, 22, 0]), (1, 4, [17]), (0, 100, []), (1, 4, [19]), (0, 6, []), (1, 4, [21]), (0, 48, []), (1, 4, [23]), (0, 6, []), (1, 5, [25, 27, 29, 31, 0]), (1, 4, [26]), (0, 100, []), (1, 4, [28]), (0, 6, []), (1, 4, [30]), (0, 48, []), (1, 4, [32]), (0, 6, []), (1, 5, [34, 36, 38, 40, 0]), (1, 4, [35]), (0, 100, []), (1, 4, [37]), (0, 6, []), (1, 4, [39]), (0, 48, []), (1, 4, [41]), (0, 6, []), (1, 5, [2, 2, 2, 2, 0])]
def WL60 : List Sh := [(1, 6, [4, 2, 2, 2, 2, 2, 0, 0]), (1, 5, [5, 7, 9, 11, 0]), (1, 4, [6]), (0, 100, []), (1, 4, [8]), (0, 6, []), (1, 4, [10]), (0, 48, []), (1, 4, [12]), (0, 6, []), (1, 1, [2, 0, 0]), (2, 4, [15, 24, 33, 2]), (1, 5, [16, 18, 20, 22, 0]), (1, 4, [17]), (0, 100, []), (1, 4, [19]), (0, 6, []), (1, 4, [21]), (0, 48, []), (1, 4, [23]), (0, 6, []), (1, 5, [25, 27, 29, 31, 0]), (1, 4, [26]), (0, 100, []), (1, 4, [28]), (0, 6, []), (1, 4, [30]), (0, 48, []), (1, 4, [32]), (0, 6, []), (1, 5, [34, 36, 38, 40, 0]), (1, 4, [35]), (0, 100, []), (1, 4, [37]), (0, 6, []), (1, 4, [39]), (0, 48, []), (1, 4, [41]), (0, 6, []), (1, 5, [2, 2, 2, 2, 0]), (1, 4, [2])]
def WL61 : List Sh := [(1, 6, [4, 2, 2, 2, 2, 2, 0, 0]), (1, 5, [5, 7, 9, 11, 0]), (1, 4, [6]), (0, 100, []), (1, 4, [8]), (0, 6, []), (1, 4, [10]), (0, 48, []), (1, 4, [12]), (0, 6, []), (1, 1, [2, 0, 0]), (2, 4, [15, 24, 33, 2]), (1, 5, [16, 18, 20, 22, 0]), (1, 4, [17]), (0, 100, []), (1, 4, [19]), (0, 6, []), (1, 4, [21]), (0, 48, []), (1, 4, [23]), (0, 6, []), (1, 5, [25, 27, 29, 31, 0]), (1, 4, [26]), (0, 100, []), (1, 4, [28]), (0, 6, []), (1, 4, [30]), (0, 48, []), (1, 4, [32]), (0, 6, []), (1, 5, [34, 36, 38, 40, 0]), (1, 4, [35]), (0, 100, []), (1, 4, [37]), (0, 6, []), (1, 4, [39]), (0, 48, []), (1, 4, [41]), (0, 6, []), (1, 5, [2, 2, 2, 2, 0]), (1, 4, [44]), (0, 100, [])]
def WL62 : List Sh := [(1, 6, [4, 2, 2, 2, 2, 2, 0, 0]), (1, 5, [5, 7, 9, 11, 0]), (1, 4, [6]), (0, 100, []), (1, 4, [8]), (0, 6, []), (1, 4, [10]), (0, 48, []), (1, 4, [12]), (0, 6, []), (1, 1, [2, 0, 0]), (2, 4, [15, 24, 33, 2]), (1, 5, [16, 18, 20, 22, 0]), (1, 4, [17]), (0, 100, []), (1, 4, [19]), (0, 6, []), (1, 4, [21]), (0, 48, []), (1, 4, [23]), (0, 6, []), (1, 5, [25, 27, 29, 31, 0]), (1, 4, [26]), (0, 100, []), (1, 4, [28]), (0, 6, []), (1, 4, [30]), (0, 48, []), (1, 4, [32]), (0, 6, []), (1, 5, [34, 36, 38, 40, 0]), (1, 4, [35]), (0, 100, []), (1, 4, [37]), (0, 6, []), (1, 4, [39]), (0, 48, []), (1, 4, [41]), (0, 6, []), (1, 5, [43, 2, 2, 2, 0]), (1, 4, [44]), (0, 100, [])]
def WL63 : List Sh := [(1, 6, [4, 2, 2, 2, 2, 2, 0, 0]), (1, 5, [5, 7, 9, 11, 0]), (1, 4, [6]), (0, 100, []), (1, 4, [8]), (0, 6, []), (1, 4, [10]), (0, 48, []), (1, 4, [12]), (0, 6, []), (1, 1, [2, 0, 0]), (2, 4, [15, 24, 33, 2]), (1, 5, [16, 18, 20, 22, 0]), (1, 4, [17]), (0, 100, []), (1, 4, [19]), (0, 6, []), (1, 4, [21]), (0, 48, []), (1, 4, [23]), (0, 6, []), (1, 5, [25, 27, 29, 31, 0]), (1, 4, [26]), (0, 100, []), (1, 4, [28]), (0, 6, []), (1, 4, [30]), (0, 48, []), (1, 4, [32]), (0, 6, []), (1, 5, [34, 36, 38, 40, 0]), (1, 4, [35]), (0, 100, []), (1, 4, [37]), (0, 6, []), (1, 4, [39]), (0, 48, []), (1, 4, [41]), (0, 6, []), (1, 5, [43, 2, 2, 2, 0]), (1, 4, [44]), (0, 100, []), (1, 4, [2])]
def WL64 : List Sh := [(1, 6, [4, 2, 2, 2, 2, 2, 0, 0]), (1, 5, [5, 7, 9, 11, 0]), (1, 4, [6]), (0, 100, []), (1, 4, [8]), (0, 6, []), (1, 4, [10]), (0, 48, []), (1, 4, [12]), (0, 6, []), (1, 1, [2, 0, 0]), (2, 4, [15, 24, 33, 2]), (1, 5, [16, 18, 20, 22, 0]), (1, 4, [17]), (0, 100, []), (1, 4, [19]), (0, 6, []), (1, 4, [21]), (0, 48, []), (1, 4, [23]), (0, 6, []), (1, 5, [25, 27, 29, 31, 0]), (1, 4, [26]), (0, 100, []), (1, 4, [28]), (0, 6, []), (1, 4, [30]), (0, 48, []), (1, 4, [32]), (0, 6, []), (1, 5, [34, 36, 38, 40, 0]), (1, 4, [35]), (0, 100, []), (1, 4, [37]), (0, 6, []), (1, 4, [39]), (0, 48, []), (1, 4, [41]), (0, 6, []), (1, 5, [43, 2, 2, 2, 0]), (1, 4, [44]), (0, 100, []), (1, 4, [46]), (0, 6, [])]
def WL65 : List Sh := [(1, 6, [4, 2, 2, 2, 2, 2, 0, 0]), (1, 5, [5, 7, 9, 11, 0]), (1, 4, [6]), (0, 100, []), (1, 4, [8]), (0, 6, []), (1, 4, [10]), (0, 48, []), (1, 4, [12]), (0, 6, []), (1, 1, [2, 0, 0]), (2, 4, [15, 24, 33, 2]), (1, 5, [16, 18, 20, 22, 0]), (1, 4, [17]), (0, 100, []), (1, 4, [19]), (0, 6, []), (1, 4, [21]), (0, 48, []), (1, 4, [23]), (0, 6, []), (1, 5, [25, 27, 29, 31, 0]), (1, 4, [26]), (0, 100, []), (1, 4, [28]), (0, 6, []), (1, 4, [30]), (0, 48, []), (1, 4, [32]), (0, 6, []), (1, 5, [34, 36, 38, 40, 0]), (1, 4, [35]), (0, 100, []), (1, 4, [37]), (0, 6, []), (1, 4, [39]), (0, 48, []), (1, 4, [41]), (0, 6, []), (1, 5, [43, 45, 2, 2, 0]), (1, 4, [44]), (0, 100, []), (1, 4, [46]), (0, 6, [])]
def WL66 : List Sh := [(1, 6, [4, 2, 2, 2, 2, 2, 0, 0]), (1, 5, [5, 7, 9, 11, 0]), (1, 4, [6]), (0, 100, []), (1, 4, [8]), (0, 6, []), (1, 4, [10]), (0, 48, []), (1, 4, [12]), (0, 6, []), (1, 1, [2, 0, 0]), (2, 4, [15, 24, 33, 2]), (1, 5, [16, 18, 20, 22, 0]), (1, 4, [17]), (0, 100, []), (1, 4, [19]), (0, 6, []), (1, 4, [21]), (0, 48, []), (1, 4, [23]), (0, 6, []), (1, 5, [25, 27, 29, 31, 0]), (1, 4, [26]), (0, 100, []), (1, 4, [28]), (0, 6, []), (1, 4, [30]), (0, 48, []), (1, 4, [32]), (0, 6, []), (1, 5, [34, 36, 38, 40, 0]), (1, 4, [35]), (0, 100, []), (1, 4, [37]), (0, 6, []), (1, 4, [39]), (0, 48, []), (1, 4, [41]), (0, 6, []), (1, 5, [43, 45, 2, 2, 0]), (1, 4, [44]), (0, 100, []), (1, 4, [46]), (0, 6, []), (1, 4, [2])]
def WL67 : List Sh := [(1, 6, [4, 2, 2, 2, 2, 2, 0, 0]), (1, 5, [5, 7, 9, 11, 0]), (1, 4, [6]), (0, 100, []), (1, 4, [8]), (0, 6, []), (1, 4, [10]), (0, 48, []), (1, 4, [12]), (0, 6, []), (1, 1, [2, 0, 0]), (2, 4, [15, 24, 33, 2]), (1, 5, [16, 18, 20, 22, 0]), (1, 4, [17]), (0, 100, []), (1, 4, [19]), (0, 6, []), (1, 4, [21]), (0, 48, []), (1, 4, [23]), (0, 6, []), (1, 5, [25, 27, 29, 31, 0]), (1, 4, [26]), (0, 100, []), (1, 4, [28]), (0, 6, []), (1, 4, [30]), (0, 48, []), (1, 4, [32]), (0, 6, []), (1, 5, [34, 36, 38, 40, 0]), (1, 4, [35]), (0, 100, []), (1, 4, [37]), (0, 6, []), (1, 4, [39]), (0, 48, []), (1, 4, [41]), (0, 6, []), (1, 5, [43, 45, 2, 2, 0]), (1, 4, [44]), (0, 100, []), (1, 4, [46]), (0, 6, []), (1, 4, [48]), (0, 48, [])]
def WL68 : List Sh := [(1, 6, [4, 2, 2, 2, 2, 2, 0, 0]), (1, 5, [5, 7, 9, 11, 0]), (1, 4, [6]), (0, 100, []), (1, 4, [8]), (0, 6, []), (1, 4, [10]), (0, 48, []), (1, 4, [12]), (0, 6, []), (1, 1, [2, 0, 0]), (2, 4, [15, 24, 33, 2]), (1, 5, [16, 18, 20, 22, 0]), (1, 4, [17]), (0, 100, []), (1, 4, [19]), (0, 6, []), (1, 4, [21]), (0, 48, []), (1, 4, [23]), (0, 6, []), (1, 5, [25, 27, 29, 31, 0]), (1, 4, [26]), (0, 100, []), (1, 4, [28]), (0, 6, []), (1, 4, [30]), (0, 48, []), (1, 4, [32]), (0, 6, []), (1, 5, [34, 36, 38, 40, 0]), (1, 4, [35]), (0, 100, []), (1, 4, [37]), (0, 6, []), (1, 4, [39]), (0, 48, []), (1, 4, [41]), (0, 6, []), (1, 5, [43, 45, 47, 2, 0]), (1, 4, [44]), (0, 100, []), (1, 4, [46]), (0, 6, []), (1, 4, [48]), (0, 48, [])]
def WL69 : List Sh := [(1, 6, [4, 2, 2, 2, 2, 2, 0, 0]), (1, 5, [5, 7, 9, 11, 0]), (1, 4, [6]), (0, 100, []), (1, 4, [8]), (0, 6, []), (1, 4, [10]), (0, 48, []), (1, 4, [12]), (0, 6, []), (1, 1, [2, 0, 0]), (2, 4, [15, 24, 33, 2]), (1, 5, [16, 18, 20, 22, 0]), (1, 4, [17]), (0, 100, []), (1, 4, [19]), (0, 6, []), (1, 4, [21]), (0, 48, []), (1, 4, [23]), (0, 6, []), (1, 5, [25, 27, 29, 31, 0]), (1, 4, [26]), (0, 100, []), (1, 4, [28]), (0, 6, []), (1, 4, [30]), (0, 48, []), (1, 4, [32]), (0, 6, []), (1, 5, [34, 36, 38, 40, 0]), (1, 4, [35]), (0, 100, []), (1, 4, [37]), (0, 6, []), (1, 4, [39]), (0, 48, []), (1, 4, [41]), (0, 6, []), (1, 5, [43, 45, 47, 2, 0]), (1, 4, [44]), (0, 100, []), (1, 4, [46]), (0, 6, []), (1, 4, [48]), (0, 48, []), (1, 4, [2])]
def WL70 : List Sh := [(1, 6, [4, 2, 2, 2, 2, 2, 0, 0]), (1, 5, [5, 7, 9, 11, 0]), (1, 4, [6]), (0, 100, []), (1, 4, [8]), (0, 6, []), (1, 4, [10]), (0, 48, []), (1, 4, [12]), (0, 6, []), (1, 1, [2, 0, 0]), (2, 4, [15, 24, 33, 2]), (1, 5, [16, 18, 20, 22, 0]), (1, 4, [17]), (0, 100, []), (1, 4, [19]), (0, 6, []), (1, 4, [21]), (0, 48, []), (1, 4, [23]), (0, 6, []), (1, 5, [25, 27, 29, 31, 0]), (1, 4, [26]), (0, 100, []), (1, 4, [28]), (0, 6, []), (1, 4, [30]), (0, 48, []), (1, 4, [32]), (0, 6, []), (1, 5, [34, 36, 38, 40, 0]), (1, 4, [35]), (0, 100, []), (1, 4, [37]), (0, 6, []), (1, 4, [39]), (0, 48, []), (1, 4, [41]), (0, 6, []), (1, 5, [43, 45, 47, 2, 0]), (1, 4, [44]), (0, 100, []), (1, 4, [46]), (0, 6, []), (1, 4, [48]), (0, 48, []), (1, 4, [50]), (0, 6, [])]
def WL71 : List Sh := [(1, 6, [4, 2, 2, 2, 2, 2, 0, 0]), (1, 5, [5, 7, 9, 11, 0]), (1, 4, [6]), (0, 100, []), (1, 4, [8]), (0, 6, []), (1, 4, [10]), (0, 48, []), (1, 4, [12]), (0, 6, []), (1, 1, [2, 0, 0]), (2, 4, [15, 24, 33, 2]), (1, 5, [16, 18, 20, 22, 0]), (1, 4, [17]), (0, 100, []), (1, 4, [19]), (0, 6, []), (1, 4, [21]), (0, 48, []), (1, 4, [23]), (0, 6, []), (1, 5, [25, 27, 29, 31, 0]), (1, 4, [26]), (0, 100, []), (1, 4, [28]), (0, 6, []), (1, 4, [30]), (0, 48, []), (1, 4, [32]), (0, 6, []), (1, 5, [34, 36, 38, 40, 0]), (1, 4, [35]), (0, 100, []), (1, 4, [37]), (0, 6, []), (1, 4, [39]), (0, 48, []), (1, 4, [41]), (0, 6, []), (1, 5, [43, 45, 47, 49, 0]), (1, 4, [44]), (0, 100, []), (1, 4, [46]), (0, 6, []), (1, 4, [48]), (0, 48, []), (1, 4, [50]), (0, 6, [])]
def sg_State_39 (σ : St) : St := (eff_X4_fill 46 6 (-1) (up (ur (ur (ur (ur (ur (ur (ur (ur σ 40 (fun _ => 0)) 41 (fun _ => 0)) 42 (fun _ => 0)) 43 (fun _ => 0)) 44 (fun _ => 0)) 45 (fun _ => 0)) 46 (fun _ => 0)) 47 (fun _ => 0)) 39 4 0))
abbrev rc_State_39 : Room := ({ frames := 2, cells := 8, slots := 164, locals := 33 } : Room)
set_option maxHeartbeats 4000000 in
set_option maxRecDepth 100000 in
theorem cc_State_39 (l : Launch) (w : GW) (g0 : Nat → Nat) (σ : St) (sz : Nat) (x39 : Nat) (a39 : g0 39 = x39) : Met l yX5_init (Cond.code yX5_init cX5_init 1 none :: wsL_law) rc_State_39 (gPcC (gw w g0) WL59 σ sz [.ref x39]) (gQc w g0 WL59.length sz WL71 (sg_State_39 σ)) 8 164 (gA (gw w g0) WL59.length sz) := by
  refine g_metC (by decide) [.ref x39] (Nat.le_of_ble_eq_true rfl) ?_
  intro p e s m below meth c ls hz C0 hin hao hl G
  obtain ⟨hx, hb, hr, hml, hown, hts, hlk, hNw, hA⟩ := id C0
  have hown : s.vm.findClass RX5 = some m.cls := hown
  have hl : lv_has ls 1 [(0, .ref x39)] := hl
  have E : ∀ k, k < 40 → g0 k = g0 k := fun _ _ => rfl
  refine lv_aload_n hx hb dX5_init_0 rfl (lv_at hl 0 rfl) ?_
  refine g_objI hx hb hml hts hown wm_38 wm_10 wm_11 hl.1 (Nat.le_of_ble_eq_true rfl) (Nat.le_of_ble_eq_true rfl) dX5_init_1 ?_
  refine lv_aload_n hx hb dX5_init_4 rfl (lv_at hl 0 rfl) ?_
  refine g_newO (n := 40) (ci := 4) (C := RX4) (T := TX4) (N := 1) hx hb hts hown [2] inlX4 tyX4 tyX4_ok G hA rfl (by decide +kernel) rfl (fun j hj => by rcases (show j = 0 by omega) with rfl <;> rfl) (by decide) wm_39 wm_21 wm_22 (Nat.le_of_ble_eq_true rfl) (Nat.le_of_ble_eq_true rfl) dX5_init_5 (show _ = WL60 from rfl) (fun g x40 H a40 hg G => ?_)
  have a39 := (hg 39 (Nat.le_of_ble_eq_true rfl)).trans a39
  have E : ∀ k, k < 40 → g k = g0 k := fun k hk => (hg k (Nat.lt_of_lt_of_le hk (Nat.le_of_ble_eq_true rfl))).trans (E k hk)
  refine W.widen (k := 1) (n := 1) (Nat.le_of_ble_eq_true rfl) (Nat.le_of_ble_eq_true rfl) ?_
  refine lv_dup hx hb dX5_init_8 rfl ?_
  refine lv_bipush (v := iz 100) hx hb dX5_init_9 (by decide +kernel) ?_
  refine g_callC (n := 1) (rest := [.ref x40, .ref x39]) (n0 := 41) hx hb hml hts hown hNw hao hA G [.int (iz 100)] (c4_init l w _ _ _ 40 100 41 x40 a40 rfl (by decide +kernel) rfl (by decide) (i := 100) rfl (show _ = WL61 from rfl)) rfl wm_45 wm_46 wm_22 wm_47 rfl ⟨by decide +kernel, by decide +kernel, by decide +kernel⟩ ⟨rfl, rfl, (Nat.le_of_ble_eq_true rfl), (Nat.le_of_ble_eq_true rfl)⟩ rfl hl.1 (Nat.le_of_ble_eq_true rfl) rfl dX5_init_11 ⟨(Nat.le_of_ble_eq_true rfl), (Nat.le_of_ble_eq_true rfl)⟩ (fun g H locs hg G => ?_)
  have a39 := (hg 39 (Nat.le_of_ble_eq_true rfl)).trans a39
  have a40 := (hg 40 (Nat.le_of_ble_eq_true rfl)).trans a40
  have E : ∀ k, k < 40 → g k = g0 k := fun k hk => (hg k (Nat.lt_of_lt_of_le hk (Nat.le_of_ble_eq_true rfl))).trans (E k hk)
  refine W.widen (k := 2) (n := 101) (Nat.le_of_ble_eq_true rfl) (Nat.le_of_ble_eq_true rfl) ?_
  refine g_putF (k := 39) (ci := 5) (cs := [2, 2, 2, 2, 0]) hx hb hts hown 0 40 inlX5 tyX5 tyX5_ok nmX5 G rfl rfl (by decide) (by decide) wm_40 rfl hin rfl rfl rfl dX5_init_14 a39 a40 (show _ = WL62 from rfl) (fun H locs G => ?_)
  refine lv_aload_n hx hb dX5_init_17 rfl (lv_at hl 0 rfl) ?_
  refine g_newO (n := 42) (ci := 4) (C := RX4) (T := TX4) (N := 1) hx hb hts hown [2] inlX4 tyX4 tyX4_ok G hA rfl (by decide +kernel) rfl (fun j hj => by rcases (show j = 0 by omega) with rfl <;> rfl) (by decide) wm_39 wm_21 wm_22 (Nat.le_of_ble_eq_true rfl) (Nat.le_of_ble_eq_true rfl) dX5_init_18 (show _ = WL63 from rfl) (fun g x42 H a42 hg G => ?_)
  have a39 := (hg 39 (Nat.le_of_ble_eq_true rfl)).trans a39
  have a40 := (hg 40 (Nat.le_of_ble_eq_true rfl)).trans a40
  have E : ∀ k, k < 40 → g k = g0 k := fun k hk => (hg k (Nat.lt_of_lt_of_le hk (Nat.le_of_ble_eq_true rfl))).trans (E k hk)
  refine W.widen (k := 3) (n := 102) (Nat.le_of_ble_eq_true rfl) (Nat.le_of_ble_eq_true rfl) ?_
  refine lv_dup hx hb dX5_init_21 rfl ?_
  refine lv_bipush (v := iz 6) hx hb dX5_init_22 (by decide +kernel) ?_
  refine g_callC (n := 1) (rest := [.ref x42, .ref x39]) (n0 := 43) hx hb hml hts hown hNw hao hA G [.int (iz 6)] (c4_init l w _ _ _ 42 6 43 x42 a42 rfl (by decide +kernel) rfl (by decide) (i := 6) rfl (show _ = WL64 from rfl)) rfl wm_45 wm_46 wm_22 wm_47 rfl ⟨by decide +kernel, by decide +kernel, by decide +kernel⟩ ⟨rfl, rfl, (Nat.le_of_ble_eq_true rfl), (Nat.le_of_ble_eq_true rfl)⟩ rfl hl.1 (Nat.le_of_ble_eq_true rfl) rfl dX5_init_24 ⟨(Nat.le_of_ble_eq_true rfl), (Nat.le_of_ble_eq_true rfl)⟩ (fun g H locs hg G => ?_)
  have a39 := (hg 39 (Nat.le_of_ble_eq_true rfl)).trans a39
  have a40 := (hg 40 (Nat.le_of_ble_eq_true rfl)).trans a40
  have a42 := (hg 42 (Nat.le_of_ble_eq_true rfl)).trans a42
  have E : ∀ k, k < 40 → g k = g0 k := fun k hk => (hg k (Nat.lt_of_lt_of_le hk (Nat.le_of_ble_eq_true rfl))).trans (E k hk)
  refine W.widen (k := 4) (n := 108) (Nat.le_of_ble_eq_true rfl) (Nat.le_of_ble_eq_true rfl) ?_
  refine g_putF (k := 39) (ci := 5) (cs := [43, 2, 2, 2, 0]) hx hb hts hown 1 42 inlX5 tyX5 tyX5_ok nmX5 G rfl rfl (by decide) (by decide) wm_41 rfl hin rfl rfl rfl dX5_init_27 a39 a42 (show _ = WL65 from rfl) (fun H locs G => ?_)
  refine lv_aload_n hx hb dX5_init_30 rfl (lv_at hl 0 rfl) ?_
  refine g_newO (n := 44) (ci := 4) (C := RX4) (T := TX4) (N := 1) hx hb hts hown [2] inlX4 tyX4 tyX4_ok G hA rfl (by decide +kernel) rfl (fun j hj => by rcases (show j = 0 by omega) with rfl <;> rfl) (by decide) wm_39 wm_21 wm_22 (Nat.le_of_ble_eq_true rfl) (Nat.le_of_ble_eq_true rfl) dX5_init_31 (show _ = WL66 from rfl) (fun g x44 H a44 hg G => ?_)
  have a39 := (hg 39 (Nat.le_of_ble_eq_true rfl)).trans a39
  have a40 := (hg 40 (Nat.le_of_ble_eq_true rfl)).trans a40
  have a42 := (hg 42 (Nat.le_of_ble_eq_true rfl)).trans a42
  have E : ∀ k, k < 40 → g k = g0 k := fun k hk => (hg k (Nat.lt_of_lt_of_le hk (Nat.le_of_ble_eq_true rfl))).trans (E k hk)
  refine W.widen (k := 5) (n := 109) (Nat.le_of_ble_eq_true rfl) (Nat.le_of_ble_eq_true rfl) ?_
  refine lv_dup hx hb dX5_init_34 rfl ?_
  refine lv_bipush (v := iz 48) hx hb dX5_init_35 (by decide +kernel) ?_
  refine g_callC (n := 1) (rest := [.ref x44, .ref x39]) (n0 := 45) hx hb hml hts hown hNw hao hA G [.int (iz 48)] (c4_init l w _ _ _ 44 48 45 x44 a44 rfl (by decide +kernel) rfl (by decide) (i := 48) rfl (show _ = WL67 from rfl)) rfl wm_45 wm_46 wm_22 wm_47 rfl ⟨by decide +kernel, by decide +kernel, by decide +kernel⟩ ⟨rfl, rfl, (Nat.le_of_ble_eq_true rfl), (Nat.le_of_ble_eq_true rfl)⟩ rfl hl.1 (Nat.le_of_ble_eq_true rfl) rfl dX5_init_37 ⟨(Nat.le_of_ble_eq_true rfl), (Nat.le_of_ble_eq_true rfl)⟩ (fun g H locs hg G => ?_)
  have a39 := (hg 39 (Nat.le_of_ble_eq_true rfl)).trans a39
  have a40 := (hg 40 (Nat.le_of_ble_eq_true rfl)).trans a40
  have a42 := (hg 42 (Nat.le_of_ble_eq_true rfl)).trans a42
  have a44 := (hg 44 (Nat.le_of_ble_eq_true rfl)).trans a44
  have E : ∀ k, k < 40 → g k = g0 k := fun k hk => (hg k (Nat.lt_of_lt_of_le hk (Nat.le_of_ble_eq_true rfl))).trans (E k hk)
  refine W.widen (k := 6) (n := 157) (Nat.le_of_ble_eq_true rfl) (Nat.le_of_ble_eq_true rfl) ?_
  refine g_putF (k := 39) (ci := 5) (cs := [43, 45, 2, 2, 0]) hx hb hts hown 2 44 inlX5 tyX5 tyX5_ok nmX5 G rfl rfl (by decide) (by decide) wm_42 rfl hin rfl rfl rfl dX5_init_40 a39 a44 (show _ = WL68 from rfl) (fun H locs G => ?_)
  refine lv_aload_n hx hb dX5_init_43 rfl (lv_at hl 0 rfl) ?_
  refine g_newO (n := 46) (ci := 4) (C := RX4) (T := TX4) (N := 1) hx hb hts hown [2] inlX4 tyX4 tyX4_ok G hA rfl (by decide +kernel) rfl (fun j hj => by rcases (show j = 0 by omega) with rfl <;> rfl) (by decide) wm_39 wm_21 wm_22 (Nat.le_of_ble_eq_true rfl) (Nat.le_of_ble_eq_true rfl) dX5_init_44 (show _ = WL69 from rfl) (fun g x46 H a46 hg G => ?_)
  have a39 := (hg 39 (Nat.le_of_ble_eq_true rfl)).trans a39
  have a40 := (hg 40 (Nat.le_of_ble_eq_true rfl)).trans a40
  have a42 := (hg 42 (Nat.le_of_ble_eq_true rfl)).trans a42
  have a44 := (hg 44 (Nat.le_of_ble_eq_true rfl)).trans a44
  have E : ∀ k, k < 40 → g k = g0 k := fun k hk => (hg k (Nat.lt_of_lt_of_le hk (Nat.le_of_ble_eq_true rfl))).trans (E k hk)
  refine W.widen (k := 7) (n := 158) (Nat.le_of_ble_eq_true rfl) (Nat.le_of_ble_eq_true rfl) ?_
  refine lv_dup hx hb dX5_init_47 rfl ?_
  refine lv_bipush (v := iz 6) hx hb dX5_init_48 (by decide +kernel) ?_
  refine g_callC (n := 1) (rest := [.ref x46, .ref x39]) (n0 := 47) hx hb hml hts hown hNw hao hA G [.int (iz 6)] (c4_init l w _ _ _ 46 6 47 x46 a46 rfl (by decide +kernel) rfl (by decide) (i := 6) rfl (show _ = WL70 from rfl)) rfl wm_45 wm_46 wm_22 wm_47 rfl ⟨by decide +kernel, by decide +kernel, by decide +kernel⟩ ⟨rfl, rfl, (Nat.le_of_ble_eq_true rfl), (Nat.le_of_ble_eq_true rfl)⟩ rfl hl.1 (Nat.le_of_ble_eq_true rfl) rfl dX5_init_50 ⟨(Nat.le_of_ble_eq_true rfl), (Nat.le_of_ble_eq_true rfl)⟩ (fun g H locs hg G => ?_)
  have a39 := (hg 39 (Nat.le_of_ble_eq_true rfl)).trans a39
  have a40 := (hg 40 (Nat.le_of_ble_eq_true rfl)).trans a40
  have a42 := (hg 42 (Nat.le_of_ble_eq_true rfl)).trans a42
  have a44 := (hg 44 (Nat.le_of_ble_eq_true rfl)).trans a44
  have a46 := (hg 46 (Nat.le_of_ble_eq_true rfl)).trans a46
  have E : ∀ k, k < 40 → g k = g0 k := fun k hk => (hg k (Nat.lt_of_lt_of_le hk (Nat.le_of_ble_eq_true rfl))).trans (E k hk)
  refine W.widen (k := 8) (n := 164) (Nat.le_of_ble_eq_true rfl) (Nat.le_of_ble_eq_true rfl) ?_
  refine g_putF (k := 39) (ci := 5) (cs := [43, 45, 47, 2, 0]) hx hb hts hown 3 46 inlX5 tyX5 tyX5_ok nmX5 G rfl rfl (by decide) (by decide) wm_43 rfl hin rfl rfl rfl dX5_init_53 a39 a46 (show _ = WL71 from rfl) (fun H locs G => ?_)
  refine lv_aload_n hx hb dX5_init_56 rfl (lv_at hl 0 rfl) ?_
  refine lv_iconst (v := iz 0) hx hb dX5_init_57 rfl ?_
  refine g_putA (k := 39) (ci := 5) (cs := [43, 45, 47, 49, 0]) hx hb hts hown 4 inlX5 tyX5 tyX5_ok nmX5 G rfl rfl (by decide) rfl wm_44 rfl rfl rfl dX5_init_58 a39 (fun H locs G => ?_)
  refine lv_aload_n hx hb dX5_init_61 rfl (lv_at hl 0 rfl) ?_
  refine g_getA (k := 39) (ci := 5) (cs := [43, 45, 47, 49, 0]) hx hb hts hown 3 46 inlX5 G rfl rfl (by decide) rfl wm_43 dX5_init_62 a39 a46 ?_
  refine lv_iconst (v := iz (-1)) hx hb dX5_init_65 rfl ?_
  refine g_callVv (w := gw w g) (rest := []) hx hb hml hts hown hNw hA G [.int (iz (-1))] (cS_X4_fill WL71 l (gw w g) _ _ 46 6 ⟨rfl, rfl⟩ (by decide) (-1) trivial) (show WL71[46]? = some (1, 4, [50]) from rfl) rfl wm_51 wm_52 wm_53 wm_22 wm_54 hd_X4_fill ⟨rfl, rfl, (Nat.le_of_ble_eq_true rfl), (Nat.le_of_ble_eq_true rfl)⟩ rfl hl.1 (Nat.le_of_ble_eq_true rfl) (by show _ = [Value.int (iz (-1)), Value.ref (g 46)]; rw [a46]) dX5_init_66 ⟨(Nat.le_of_ble_eq_true rfl), (Nat.le_of_ble_eq_true rfl)⟩ (fun s1 H locs h G => ?_)
  rw [h] at G
  exact g_cret (n0 := 40) hx hb hr hlk rfl hz E G (Nat.le_of_ble_eq_true rfl) (Nat.le_of_ble_eq_true rfl) dX5_init_69
def WL72 : List Sh := [(1, 6, [4, 2, 2, 2, 2, 2, 0, 0]), (1, 5, [5, 7, 9, 11, 0]), (1, 4, [6]), (0, 100, []), (1, 4, [8]), (0, 6, []), (1, 4, [10]), (0, 48, []), (1, 4, [12]), (0, 6, []), (1, 1, [2, 0, 0]), (2, 4, [15, 24, 33, 42]), (1, 5, [16, 18, 20, 22, 0]), (1, 4, [17]), (0, 100, []), (1, 4, [19]), (0, 6, []), (1, 4, [21]), (0, 48, []), (1, 4, [23]), (0, 6, []), (1, 5, [25, 27, 29, 31, 0]), (1, 4, [26]), (0, 100, []), (1, 4, [28]), (0, 6, []), (1, 4, [30]), (0, 48, []), (1, 4, [32]), (0, 6, []), (1, 5, [34, 36, 38, 40, 0]), (1, 4, [35]), (0, 100, []), (1, 4, [37]), (0, 6, []), (1, 4, [39]), (0, 48, []), (1, 4, [41]), (0, 6, []), (1, 5, [43, 45, 47, 49, 0]), (1, 4, [44]), (0, 100, []), (1, 4, [46]), (0, 6, []), (1, 4, [48]), (0, 48, []), (1, 4, [50]), (0, 6, [])]
def WL73 : List Sh := [(1, 6, [4, 2, 2, 2, 2, 2, 0, 0]), (1, 5, [5, 7, 9, 11, 0]), (1, 4, [6]), (0, 100, []), (1, 4, [8]), (0, 6, []), (1, 4, [10]), (0, 48, []), (1, 4, [12]), (0, 6, []), (1, 1, [14, 0, 0]), (2, 4, [15, 24, 33, 42]), (1, 5, [16, 18, 20, 22, 0]), (1, 4, [17]), (0, 100, []), (1, 4, [19]), (0, 6, []), (1, 4, [21]), (0, 48, []), (1, 4, [23]), (0, 6, []), (1, 5, [25, 27, 29, 31, 0]), (1, 4, [26]), (0, 100, []), (1, 4, [28]), (0, 6, []), (1, 4, [30]), (0, 48, []), (1, 4, [32]), (0, 6, []), (1, 5, [34, 36, 38, 40, 0]), (1, 4, [35]), (0, 100, []), (1, 4, [37]), (0, 6, []), (1, 4, [39]), (0, 48, []), (1, 4, [41]), (0, 6, []), (1, 5, [43, 45, 47, 49, 0]), (1, 4, [44]), (0, 100, []), (1, 4, [46]), (0, 6, []), (1, 4, [48]), (0, 48, []), (1, 4, [50]), (0, 6, [])]
def sg_History_10 (σ : St) : St := (up (up (sg_State_39 (ur (sg_State_30 (ur (sg_State_21 (ur (sg_State_12 (ur (ur σ 11 (fun _ => 0)) 12 (fun _ => 0))) 21 (fun _ => 0))) 30 (fun _ => 0))) 39 (fun _ => 0))) 10 1 0) 10 2 0)
abbrev rc_History_10 : Room := ({ frames := 3, cells := 37, slots := 680, locals := 53 } : Room)
set_option maxHeartbeats 4000000 in
set_option maxRecDepth 100000 in
theorem cc_History_10 (l : Launch) (w : GW) (g0 : Nat → Nat) (σ : St) (sz : Nat) (x10 : Nat) (a10 : g0 10 = x10) : Met l yX1_init (Cond.code yX1_init cX1_init 1 none :: wsL_law) rc_History_10 (gPcC (gw w g0) WL15 σ sz [.ref x10]) (gQc w g0 WL15.length sz WL73 (sg_History_10 σ)) 37 680 (gA (gw w g0) WL15.length sz) := by
  refine g_metC (by decide) [.ref x10] (Nat.le_of_ble_eq_true rfl) ?_
  intro p e s m below meth c ls hz C0 hin hao hl G
  obtain ⟨hx, hb, hr, hml, hown, hts, hlk, hNw, hA⟩ := id C0
  have hown : s.vm.findClass RX1 = some m.cls := hown
  have hl : lv_has ls 1 [(0, .ref x10)] := hl
  have E : ∀ k, k < 11 → g0 k = g0 k := fun _ _ => rfl
  refine lv_aload_n hx hb dX1_init_0 rfl (lv_at hl 0 rfl) ?_
  refine g_objI hx hb hml hts hown wm_57 wm_10 wm_11 hl.1 (Nat.le_of_ble_eq_true rfl) (Nat.le_of_ble_eq_true rfl) dX1_init_1 ?_
  refine lv_aload_n hx hb dX1_init_4 rfl (lv_at hl 0 rfl) ?_
  refine lv_iconst (v := iz 4) hx hb dX1_init_5 rfl ?_
  refine g_newR (n := 11) hx hb hts hown hao G hA rfl (by decide +kernel) wm_58 4 rfl (by decide) (Nat.le_of_ble_eq_true rfl) (Nat.le_of_ble_eq_true rfl) dX1_init_6 [2, 2, 2, 2] gD4 (show _ = WL16 from rfl) (fun g x11 H a11 hg G => ?_)
  have a10 := (hg 10 (Nat.le_of_ble_eq_true rfl)).trans a10
  have E : ∀ k, k < 11 → g k = g0 k := fun k hk => (hg k (Nat.lt_of_lt_of_le hk (Nat.le_of_ble_eq_true rfl))).trans (E k hk)
  refine W.widen (k := 1) (n := 4) (Nat.le_of_ble_eq_true rfl) (Nat.le_of_ble_eq_true rfl) ?_
  refine lv_dup hx hb dX1_init_9 rfl ?_
  refine lv_iconst (v := iz 0) hx hb dX1_init_10 rfl ?_
  refine g_newO (n := 12) (ci := 5) (C := RX5) (T := TX5) (N := 5) hx hb hts hown [2, 2, 2, 2, 0] inlX5 tyX5 tyX5_ok G hA rfl (by decide +kernel) rfl (fun j hj => by rcases (show j = 0 ∨ j = 1 ∨ j = 2 ∨ j = 3 ∨ j = 4 by omega) with rfl | rfl | rfl | rfl | rfl <;> rfl) (by decide) wm_58 wm_13 wm_14 (Nat.le_of_ble_eq_true rfl) (Nat.le_of_ble_eq_true rfl) dX1_init_11 (show _ = WL17 from rfl) (fun g x12 H a12 hg G => ?_)
  have a10 := (hg 10 (Nat.le_of_ble_eq_true rfl)).trans a10
  have a11 := (hg 11 (Nat.le_of_ble_eq_true rfl)).trans a11
  have E : ∀ k, k < 11 → g k = g0 k := fun k hk => (hg k (Nat.lt_of_lt_of_le hk (Nat.le_of_ble_eq_true rfl))).trans (E k hk)
  refine W.widen (k := 2) (n := 9) (Nat.le_of_ble_eq_true rfl) (Nat.le_of_ble_eq_true rfl) ?_
  refine lv_dup hx hb dX1_init_14 rfl ?_
  refine g_callC (n := 0) (rest := [.ref x12, .int (iz 0), .ref x11, .ref x11, .ref x10]) (n0 := 13) hx hb hml hts hown hNw hao hA G [] (cc_State_12 l w _ _ _ x12 a12) rfl wm_62 wm_36 wm_14 wm_37 rfl ⟨by decide +kernel, by decide +kernel, by decide +kernel⟩ ⟨rfl, rfl, (Nat.le_of_ble_eq_true rfl), (Nat.le_of_ble_eq_true rfl)⟩ rfl hl.1 (Nat.le_of_ble_eq_true rfl) rfl dX1_init_15 ⟨(Nat.le_of_ble_eq_true rfl), (Nat.le_of_ble_eq_true rfl)⟩ (fun g H locs hg G => ?_)
  have a10 := (hg 10 (Nat.le_of_ble_eq_true rfl)).trans a10
  have a11 := (hg 11 (Nat.le_of_ble_eq_true rfl)).trans a11
  have a12 := (hg 12 (Nat.le_of_ble_eq_true rfl)).trans a12
  have E : ∀ k, k < 11 → g k = g0 k := fun k hk => (hg k (Nat.lt_of_lt_of_le hk (Nat.le_of_ble_eq_true rfl))).trans (E k hk)
  refine W.widen (k := 10) (n := 173) (Nat.le_of_ble_eq_true rfl) (Nat.le_of_ble_eq_true rfl) ?_
  refine g_astR (k := 11) (r := 12) (i := 0) (N := 4) (cs := [2, 2, 2, 2]) (vs := [16, 18, 20, 22, 0]) hx hb G rfl rfl rfl (by decide) (by decide) (by decide) dX1_init_18 a11 a12 (show _ = WL30 from rfl) (fun H locs G => ?_)
  refine lv_dup hx hb dX1_init_19 rfl ?_
  refine lv_iconst (v := iz 1) hx hb dX1_init_20 rfl ?_
  refine g_newO (n := 21) (ci := 5) (C := RX5) (T := TX5) (N := 5) hx hb hts hown [2, 2, 2, 2, 0] inlX5 tyX5 tyX5_ok G hA rfl (by decide +kernel) rfl (fun j hj => by rcases (show j = 0 ∨ j = 1 ∨ j = 2 ∨ j = 3 ∨ j = 4 by omega) with rfl | rfl | rfl | rfl | rfl <;> rfl) (by decide) wm_58 wm_13 wm_14 (Nat.le_of_ble_eq_true rfl) (Nat.le_of_ble_eq_true rfl) dX1_init_21 (show _ = WL31 from rfl) (fun g x21 H a21 hg G => ?_)
  have a10 := (hg 10 (Nat.le_of_ble_eq_true rfl)).trans a10
  have a11 := (hg 11 (Nat.le_of_ble_eq_true rfl)).trans a11
  have a12 := (hg 12 (Nat.le_of_ble_eq_true rfl)).trans a12
  have E : ∀ k, k < 11 → g k = g0 k := fun k hk => (hg k (Nat.lt_of_lt_of_le hk (Nat.le_of_ble_eq_true rfl))).trans (E k hk)
  refine W.widen (k := 11) (n := 178) (Nat.le_of_ble_eq_true rfl) (Nat.le_of_ble_eq_true rfl) ?_
  refine lv_dup hx hb dX1_init_24 rfl ?_
  refine g_callC (n := 0) (rest := [.ref x21, .int (iz 1), .ref x11, .ref x11, .ref x10]) (n0 := 22) hx hb hml hts hown hNw hao hA G [] (cc_State_21 l w _ _ _ x21 a21) rfl wm_62 wm_36 wm_14 wm_37 rfl ⟨by decide +kernel, by decide +kernel, by decide +kernel⟩ ⟨rfl, rfl, (Nat.le_of_ble_eq_true rfl), (Nat.le_of_ble_eq_true rfl)⟩ rfl hl.1 (Nat.le_of_ble_eq_true rfl) rfl dX1_init_25 ⟨(Nat.le_of_ble_eq_true rfl), (Nat.le_of_ble_eq_true rfl)⟩ (fun g H locs hg G => ?_)
  have a10 := (hg 10 (Nat.le_of_ble_eq_true rfl)).trans a10
  have a11 := (hg 11 (Nat.le_of_ble_eq_true rfl)).trans a11
  have a12 := (hg 12 (Nat.le_of_ble_eq_true rfl)).trans a12
  have a21 := (hg 21 (Nat.le_of_ble_eq_true rfl)).trans a21
  have E : ∀ k, k < 11 → g k = g0 k := fun k hk => (hg k (Nat.lt_of_lt_of_le hk (Nat.le_of_ble_eq_true rfl))).trans (E k hk)
  refine W.widen (k := 19) (n := 342) (Nat.le_of_ble_eq_true rfl) (Nat.le_of_ble_eq_true rfl) ?_
  refine g_astR (k := 11) (r := 21) (i := 1) (N := 4) (cs := [15, 2, 2, 2]) (vs := [25, 27, 29, 31, 0]) hx hb G rfl rfl rfl (by decide) (by decide) (by decide) dX1_init_28 a11 a21 (show _ = WL44 from rfl) (fun H locs G => ?_)
  refine lv_dup hx hb dX1_init_29 rfl ?_
  refine lv_iconst (v := iz 2) hx hb dX1_init_30 rfl ?_
  refine g_newO (n := 30) (ci := 5) (C := RX5) (T := TX5) (N := 5) hx hb hts hown [2, 2, 2, 2, 0] inlX5 tyX5 tyX5_ok G hA rfl (by decide +kernel) rfl (fun j hj => by rcases (show j = 0 ∨ j = 1 ∨ j = 2 ∨ j = 3 ∨ j = 4 by omega) with rfl | rfl | rfl | rfl | rfl <;> rfl) (by decide) wm_58 wm_13 wm_14 (Nat.le_of_ble_eq_true rfl) (Nat.le_of_ble_eq_true rfl) dX1_init_31 (show _ = WL45 from rfl) (fun g x30 H a30 hg G => ?_)
  have a10 := (hg 10 (Nat.le_of_ble_eq_true rfl)).trans a10
  have a11 := (hg 11 (Nat.le_of_ble_eq_true rfl)).trans a11
  have a12 := (hg 12 (Nat.le_of_ble_eq_true rfl)).trans a12
  have a21 := (hg 21 (Nat.le_of_ble_eq_true rfl)).trans a21
  have E : ∀ k, k < 11 → g k = g0 k := fun k hk => (hg k (Nat.lt_of_lt_of_le hk (Nat.le_of_ble_eq_true rfl))).trans (E k hk)
  refine W.widen (k := 20) (n := 347) (Nat.le_of_ble_eq_true rfl) (Nat.le_of_ble_eq_true rfl) ?_
  refine lv_dup hx hb dX1_init_34 rfl ?_
  refine g_callC (n := 0) (rest := [.ref x30, .int (iz 2), .ref x11, .ref x11, .ref x10]) (n0 := 31) hx hb hml hts hown hNw hao hA G [] (cc_State_30 l w _ _ _ x30 a30) rfl wm_62 wm_36 wm_14 wm_37 rfl ⟨by decide +kernel, by decide +kernel, by decide +kernel⟩ ⟨rfl, rfl, (Nat.le_of_ble_eq_true rfl), (Nat.le_of_ble_eq_true rfl)⟩ rfl hl.1 (Nat.le_of_ble_eq_true rfl) rfl dX1_init_35 ⟨(Nat.le_of_ble_eq_true rfl), (Nat.le_of_ble_eq_true rfl)⟩ (fun g H locs hg G => ?_)
  have a10 := (hg 10 (Nat.le_of_ble_eq_true rfl)).trans a10
  have a11 := (hg 11 (Nat.le_of_ble_eq_true rfl)).trans a11
  have a12 := (hg 12 (Nat.le_of_ble_eq_true rfl)).trans a12
  have a21 := (hg 21 (Nat.le_of_ble_eq_true rfl)).trans a21
  have a30 := (hg 30 (Nat.le_of_ble_eq_true rfl)).trans a30
  have E : ∀ k, k < 11 → g k = g0 k := fun k hk => (hg k (Nat.lt_of_lt_of_le hk (Nat.le_of_ble_eq_true rfl))).trans (E k hk)
  refine W.widen (k := 28) (n := 511) (Nat.le_of_ble_eq_true rfl) (Nat.le_of_ble_eq_true rfl) ?_
  refine g_astR (k := 11) (r := 30) (i := 2) (N := 4) (cs := [15, 24, 2, 2]) (vs := [34, 36, 38, 40, 0]) hx hb G rfl rfl rfl (by decide) (by decide) (by decide) dX1_init_38 a11 a30 (show _ = WL58 from rfl) (fun H locs G => ?_)
  refine lv_dup hx hb dX1_init_39 rfl ?_
  refine lv_iconst (v := iz 3) hx hb dX1_init_40 rfl ?_
  refine g_newO (n := 39) (ci := 5) (C := RX5) (T := TX5) (N := 5) hx hb hts hown [2, 2, 2, 2, 0] inlX5 tyX5 tyX5_ok G hA rfl (by decide +kernel) rfl (fun j hj => by rcases (show j = 0 ∨ j = 1 ∨ j = 2 ∨ j = 3 ∨ j = 4 by omega) with rfl | rfl | rfl | rfl | rfl <;> rfl) (by decide) wm_58 wm_13 wm_14 (Nat.le_of_ble_eq_true rfl) (Nat.le_of_ble_eq_true rfl) dX1_init_41 (show _ = WL59 from rfl) (fun g x39 H a39 hg G => ?_)
  have a10 := (hg 10 (Nat.le_of_ble_eq_true rfl)).trans a10
  have a11 := (hg 11 (Nat.le_of_ble_eq_true rfl)).trans a11
  have a12 := (hg 12 (Nat.le_of_ble_eq_true rfl)).trans a12
  have a21 := (hg 21 (Nat.le_of_ble_eq_true rfl)).trans a21
  have a30 := (hg 30 (Nat.le_of_ble_eq_true rfl)).trans a30
  have E : ∀ k, k < 11 → g k = g0 k := fun k hk => (hg k (Nat.lt_of_lt_of_le hk (Nat.le_of_ble_eq_true rfl))).trans (E k hk)
  refine W.widen (k := 29) (n := 516) (Nat.le_of_ble_eq_true rfl) (Nat.le_of_ble_eq_true rfl) ?_
  refine lv_dup hx hb dX1_init_44 rfl ?_
  refine g_callC (n := 0) (rest := [.ref x39, .int (iz 3), .ref x11, .ref x11, .ref x10]) (n0 := 40) hx hb hml hts hown hNw hao hA G [] (cc_State_39 l w _ _ _ x39 a39) rfl wm_62 wm_36 wm_14 wm_37 rfl ⟨by decide +kernel, by decide +kernel, by decide +kernel⟩ ⟨rfl, rfl, (Nat.le_of_ble_eq_true rfl), (Nat.le_of_ble_eq_true rfl)⟩ rfl hl.1 (Nat.le_of_ble_eq_true rfl) rfl dX1_init_45 ⟨(Nat.le_of_ble_eq_true rfl), (Nat.le_of_ble_eq_true rfl)⟩ (fun g H locs hg G => ?_)
  have a10 := (hg 10 (Nat.le_of_ble_eq_true rfl)).trans a10
  have a11 := (hg 11 (Nat.le_of_ble_eq_true rfl)).trans a11
  have a12 := (hg 12 (Nat.le_of_ble_eq_true rfl)).trans a12
  have a21 := (hg 21 (Nat.le_of_ble_eq_true rfl)).trans a21
  have a30 := (hg 30 (Nat.le_of_ble_eq_true rfl)).trans a30
  have a39 := (hg 39 (Nat.le_of_ble_eq_true rfl)).trans a39
  have E : ∀ k, k < 11 → g k = g0 k := fun k hk => (hg k (Nat.lt_of_lt_of_le hk (Nat.le_of_ble_eq_true rfl))).trans (E k hk)
  refine W.widen (k := 37) (n := 680) (Nat.le_of_ble_eq_true rfl) (Nat.le_of_ble_eq_true rfl) ?_
  refine g_astR (k := 11) (r := 39) (i := 3) (N := 4) (cs := [15, 24, 33, 2]) (vs := [43, 45, 47, 49, 0]) hx hb G rfl rfl rfl (by decide) (by decide) (by decide) dX1_init_48 a11 a39 (show _ = WL72 from rfl) (fun H locs G => ?_)
  refine g_putF (k := 10) (ci := 1) (cs := [2, 0, 0]) hx hb hts hown 0 11 inlX1 tyX1 tyX1_ok nmX1 G rfl rfl (by decide) (by decide) wm_59 rfl hin rfl rfl rfl dX1_init_49 a10 a11 (show _ = WL73 from rfl) (fun H locs G => ?_)
  refine lv_aload_n hx hb dX1_init_52 rfl (lv_at hl 0 rfl) ?_
  refine lv_iconst (v := iz 0) hx hb dX1_init_53 rfl ?_
  refine g_putA (k := 10) (ci := 1) (cs := [14, 0, 0]) hx hb hts hown 1 inlX1 tyX1 tyX1_ok nmX1 G rfl rfl (by decide) rfl wm_60 rfl rfl rfl dX1_init_54 a10 (fun H locs G => ?_)
  refine lv_aload_n hx hb dX1_init_57 rfl (lv_at hl 0 rfl) ?_
  refine lv_iconst (v := iz 0) hx hb dX1_init_58 rfl ?_
  refine g_putA (k := 10) (ci := 1) (cs := [14, 0, 0]) hx hb hts hown 2 inlX1 tyX1 tyX1_ok nmX1 G rfl rfl (by decide) rfl wm_61 rfl rfl rfl dX1_init_59 a10 (fun H locs G => ?_)
  exact g_cret (n0 := 11) hx hb hr hlk rfl hz E G (Nat.le_of_ble_eq_true rfl) (Nat.le_of_ble_eq_true rfl) dX1_init_62
def WL74 : List Sh := [(1, 6, [4, 13, 2, 2, 2, 2, 0, 0]), (1, 5, [5, 7, 9, 11, 0]), (1, 4, [6]), (0, 100, []), (1, 4, [8]), (0, 6, []), (1, 4, [10]), (0, 48, []), (1, 4, [12]), (0, 6, []), (1, 1, [14, 0, 0]), (2, 4, [15, 24, 33, 42]), (1, 5, [16, 18, 20, 22, 0]), (1, 4, [17]), (0, 100, []), (1, 4, [19]), (0, 6, []), (1, 4, [21]), (0, 48, []), (1, 4, [23]), (0, 6, []), (1, 5, [25, 27, 29, 31, 0]), (1, 4, [26]), (0, 100, []), (1, 4, [28]), (0, 6, []), (1, 4, [30]), (0, 48, []), (1, 4, [32]), (0, 6, []), (1, 5, [34, 36, 38, 40, 0]), (1, 4, [35]), (0, 100, []), (1, 4, [37]), (0, 6, []), (1, 4, [39]), (0, 48, []), (1, 4, [41]), (0, 6, []), (1, 5, [43, 45, 47, 49, 0]), (1, 4, [44]), (0, 100, []), (1, 4, [46]), (0, 6, []), (1, 4, [48]), (0, 48, []), (1, 4, [50]), (0, 6, [])]
def WL75 : List Sh := [(1, 6, [4, 13, 2, 2, 2, 2, 0, 0]), (1, 5, [5, 7, 9, 11, 0]), (1, 4, [6]), (0, 100, []), (1, 4, [8]), (0, 6, []), (1, 4, [10]), (0, 48, []), (1, 4, [12]), (0, 6, []), (1, 1, [14, 0, 0]), (2, 4, [15, 24, 33, 42]), (1, 5, [16, 18, 20, 22, 0]), (1, 4, [17]), (0, 100, []), (1, 4, [19]), (0, 6, []), (1, 4, [21]), (0, 48, []), (1, 4, [23]), (0, 6, []), (1, 5, [25, 27, 29, 31, 0]), (1, 4, [26]), (0, 100, []), (1, 4, [28]), (0, 6, []), (1, 4, [30]), (0, 48, []), (1, 4, [32]), (0, 6, []), (1, 5, [34, 36, 38, 40, 0]), (1, 4, [35]), (0, 100, []), (1, 4, [37]), (0, 6, []), (1, 4, [39]), (0, 48, []), (1, 4, [41]), (0, 6, []), (1, 5, [43, 45, 47, 49, 0]), (1, 4, [44]), (0, 100, []), (1, 4, [46]), (0, 6, []), (1, 4, [48]), (0, 48, []), (1, 4, [50]), (0, 6, []), (1, 4, [2])]
def WL76 : List Sh := [(1, 6, [4, 13, 2, 2, 2, 2, 0, 0]), (1, 5, [5, 7, 9, 11, 0]), (1, 4, [6]), (0, 100, []), (1, 4, [8]), (0, 6, []), (1, 4, [10]), (0, 48, []), (1, 4, [12]), (0, 6, []), (1, 1, [14, 0, 0]), (2, 4, [15, 24, 33, 42]), (1, 5, [16, 18, 20, 22, 0]), (1, 4, [17]), (0, 100, []), (1, 4, [19]), (0, 6, []), (1, 4, [21]), (0, 48, []), (1, 4, [23]), (0, 6, []), (1, 5, [25, 27, 29, 31, 0]), (1, 4, [26]), (0, 100, []), (1, 4, [28]), (0, 6, []), (1, 4, [30]), (0, 48, []), (1, 4, [32]), (0, 6, []), (1, 5, [34, 36, 38, 40, 0]), (1, 4, [35]), (0, 100, []), (1, 4, [37]), (0, 6, []), (1, 4, [39]), (0, 48, []), (1, 4, [41]), (0, 6, []), (1, 5, [43, 45, 47, 49, 0]), (1, 4, [44]), (0, 100, []), (1, 4, [46]), (0, 6, []), (1, 4, [48]), (0, 48, []), (1, 4, [50]), (0, 6, []), (1, 4, [52]), (0, 8, [])]
def WL77 : List Sh := [(1, 6, [4, 13, 51, 2, 2, 2, 0, 0]), (1, 5, [5, 7, 9, 11, 0]), (1, 4, [6]), (0, 100, []), (1, 4, [8]), (0, 6, []), (1, 4, [10]), (0, 48, []), (1, 4, [12]), (0, 6, []), (1, 1, [14, 0, 0]), (2, 4, [15, 24, 33, 42]), (1, 5, [16, 18, 20, 22, 0]), (1, 4, [17]), (0, 100, []), (1, 4, [19]), (0, 6, []), (1, 4, [21]), (0, 48, []), (1, 4, [23]), (0, 6, []), (1, 5, [25, 27, 29, 31, 0]), (1, 4, [26]), (0, 100, []), (1, 4, [28]), (0, 6, []), (1, 4, [30]), (0, 48, []), (1, 4, [32]), (0, 6, []), (1, 5, [34, 36, 38, 40, 0]), (1, 4, [35]), (0, 100, []), (1, 4, [37]), (0, 6, []), (1, 4, [39]), (0, 48, []), (1, 4, [41]), (0, 6, []), (1, 5, [43, 45, 47, 49, 0]), (1, 4, [44]), (0, 100, []), (1, 4, [46]), (0, 6, []), (1, 4, [48]), (0, 48, []), (1, 4, [50]), (0, 6, []), (1, 4, [52]), (0, 8, [])]
def WL78 : List Sh := [(1, 6, [4, 13, 51, 2, 2, 2, 0, 0]), (1, 5, [5, 7, 9, 11, 0]), (1, 4, [6]), (0, 100, []), (1, 4, [8]), (0, 6, []), (1, 4, [10]), (0, 48, []), (1, 4, [12]), (0, 6, []), (1, 1, [14, 0, 0]), (2, 4, [15, 24, 33, 42]), (1, 5, [16, 18, 20, 22, 0]), (1, 4, [17]), (0, 100, []), (1, 4, [19]), (0, 6, []), (1, 4, [21]), (0, 48, []), (1, 4, [23]), (0, 6, []), (1, 5, [25, 27, 29, 31, 0]), (1, 4, [26]), (0, 100, []), (1, 4, [28]), (0, 6, []), (1, 4, [30]), (0, 48, []), (1, 4, [32]), (0, 6, []), (1, 5, [34, 36, 38, 40, 0]), (1, 4, [35]), (0, 100, []), (1, 4, [37]), (0, 6, []), (1, 4, [39]), (0, 48, []), (1, 4, [41]), (0, 6, []), (1, 5, [43, 45, 47, 49, 0]), (1, 4, [44]), (0, 100, []), (1, 4, [46]), (0, 6, []), (1, 4, [48]), (0, 48, []), (1, 4, [50]), (0, 6, []), (1, 4, [52]), (0, 8, []), (1, 4, [2])]
def WL79 : List Sh := [(1, 6, [4, 13, 51, 2, 2, 2, 0, 0]), (1, 5, [5, 7, 9, 11, 0]), (1, 4, [6]), (0, 100, []), (1, 4, [8]), (0, 6, []), (1, 4, [10]), (0, 48, []), (1, 4, [12]), (0, 6, []), (1, 1, [14, 0, 0]), (2, 4, [15, 24, 33, 42]), (1, 5, [16, 18, 20, 22, 0]), (1, 4, [17]), (0, 100, []), (1, 4, [19]), (0, 6, []), (1, 4, [21]), (0, 48, []), (1, 4, [23]), (0, 6, []), (1, 5, [25, 27, 29, 31, 0]), (1, 4, [26]), (0, 100, []), (1, 4, [28]), (0, 6, []), (1, 4, [30]), (0, 48, []), (1, 4, [32]), (0, 6, []), (1, 5, [34, 36, 38, 40, 0]), (1, 4, [35]), (0, 100, []), (1, 4, [37]), (0, 6, []), (1, 4, [39]), (0, 48, []), (1, 4, [41]), (0, 6, []), (1, 5, [43, 45, 47, 49, 0]), (1, 4, [44]), (0, 100, []), (1, 4, [46]), (0, 6, []), (1, 4, [48]), (0, 48, []), (1, 4, [50]), (0, 6, []), (1, 4, [52]), (0, 8, []), (1, 4, [54]), (0, 3, [])]
def WL80 : List Sh := [(1, 6, [4, 13, 51, 53, 2, 2, 0, 0]), (1, 5, [5, 7, 9, 11, 0]), (1, 4, [6]), (0, 100, []), (1, 4, [8]), (0, 6, []), (1, 4, [10]), (0, 48, []), (1, 4, [12]), (0, 6, []), (1, 1, [14, 0, 0]), (2, 4, [15, 24, 33, 42]), (1, 5, [16, 18, 20, 22, 0]), (1, 4, [17]), (0, 100, []), (1, 4, [19]), (0, 6, []), (1, 4, [21]), (0, 48, []), (1, 4, [23]), (0, 6, []), (1, 5, [25, 27, 29, 31, 0]), (1, 4, [26]), (0, 100, []), (1, 4, [28]), (0, 6, []), (1, 4, [30]), (0, 48, []), (1, 4, [32]), (0, 6, []), (1, 5, [34, 36, 38, 40, 0]), (1, 4, [35]), (0, 100, []), (1, 4, [37]), (0, 6, []), (1, 4, [39]), (0, 48, []), (1, 4, [41]), (0, 6, []), (1, 5, [43, 45, 47, 49, 0]), (1, 4, [44]), (0, 100, []), (1, 4, [46]), (0, 6, []), (1, 4, [48]), (0, 48, []), (1, 4, [50]), (0, 6, []), (1, 4, [52]), (0, 8, []), (1, 4, [54]), (0, 3, [])]
def WL81 : List Sh := [(1, 6, [4, 13, 51, 53, 2, 2, 0, 0]), (1, 5, [5, 7, 9, 11, 0]), (1, 4, [6]), (0, 100, []), (1, 4, [8]), (0, 6, []), (1, 4, [10]), (0, 48, []), (1, 4, [12]), (0, 6, []), (1, 1, [14, 0, 0]), (2, 4, [15, 24, 33, 42]), (1, 5, [16, 18, 20, 22, 0]), (1, 4, [17]), (0, 100, []), (1, 4, [19]), (0, 6, []), (1, 4, [21]), (0, 48, []), (1, 4, [23]), (0, 6, []), (1, 5, [25, 27, 29, 31, 0]), (1, 4, [26]), (0, 100, []), (1, 4, [28]), (0, 6, []), (1, 4, [30]), (0, 48, []), (1, 4, [32]), (0, 6, []), (1, 5, [34, 36, 38, 40, 0]), (1, 4, [35]), (0, 100, []), (1, 4, [37]), (0, 6, []), (1, 4, [39]), (0, 48, []), (1, 4, [41]), (0, 6, []), (1, 5, [43, 45, 47, 49, 0]), (1, 4, [44]), (0, 100, []), (1, 4, [46]), (0, 6, []), (1, 4, [48]), (0, 48, []), (1, 4, [50]), (0, 6, []), (1, 4, [52]), (0, 8, []), (1, 4, [54]), (0, 3, []), (1, 2, [2, 2, 2, 2, 2])]
def WL82 : List Sh := [(1, 6, [4, 13, 51, 53, 2, 2, 0, 0]), (1, 5, [5, 7, 9, 11, 0]), (1, 4, [6]), (0, 100, []), (1, 4, [8]), (0, 6, []), (1, 4, [10]), (0, 48, []), (1, 4, [12]), (0, 6, []), (1, 1, [14, 0, 0]), (2, 4, [15, 24, 33, 42]), (1, 5, [16, 18, 20, 22, 0]), (1, 4, [17]), (0, 100, []), (1, 4, [19]), (0, 6, []), (1, 4, [21]), (0, 48, []), (1, 4, [23]), (0, 6, []), (1, 5, [25, 27, 29, 31, 0]), (1, 4, [26]), (0, 100, []), (1, 4, [28]), (0, 6, []), (1, 4, [30]), (0, 48, []), (1, 4, [32]), (0, 6, []), (1, 5, [34, 36, 38, 40, 0]), (1, 4, [35]), (0, 100, []), (1, 4, [37]), (0, 6, []), (1, 4, [39]), (0, 48, []), (1, 4, [41]), (0, 6, []), (1, 5, [43, 45, 47, 49, 0]), (1, 4, [44]), (0, 100, []), (1, 4, [46]), (0, 6, []), (1, 4, [48]), (0, 48, []), (1, 4, [50]), (0, 6, []), (1, 4, [52]), (0, 8, []), (1, 4, [54]), (0, 3, []), (1, 2, [2, 2, 2, 2, 2]), (1, 4, [2])]
def WL83 : List Sh := [(1, 6, [4, 13, 51, 53, 2, 2, 0, 0]), (1, 5, [5, 7, 9, 11, 0]), (1, 4, [6]), (0, 100, []), (1, 4, [8]), (0, 6, []), (1, 4, [10]), (0, 48, []), (1, 4, [12]), (0, 6, []), (1, 1, [14, 0, 0]), (2, 4, [15, 24, 33, 42]), (1, 5, [16, 18, 20, 22, 0]), (1, 4, [17]), (0, 100, []), (1, 4, [19]), (0, 6, []), (1, 4, [21]), (0, 48, []), (1, 4, [23]), (0, 6, []), (1, 5, [25, 27, 29, 31, 0]), (1, 4, [26]), (0, 100, []), (1, 4, [28]), (0, 6, []), (1, 4, [30]), (0, 48, []), (1, 4, [32]), (0, 6, []), (1, 5, [34, 36, 38, 40, 0]), (1, 4, [35]), (0, 100, []), (1, 4, [37]), (0, 6, []), (1, 4, [39]), (0, 48, []), (1, 4, [41]), (0, 6, []), (1, 5, [43, 45, 47, 49, 0]), (1, 4, [44]), (0, 100, []), (1, 4, [46]), (0, 6, []), (1, 4, [48]), (0, 48, []), (1, 4, [50]), (0, 6, []), (1, 4, [52]), (0, 8, []), (1, 4, [54]), (0, 3, []), (1, 2, [2, 2, 2, 2, 2]), (1, 4, [57]), (0, 101, [])]
def WL84 : List Sh := [(1, 6, [4, 13, 51, 53, 2, 2, 0, 0]), (1, 5, [5, 7, 9, 11, 0]), (1, 4, [6]), (0, 100, []), (1, 4, [8]), (0, 6, []), (1, 4, [10]), (0, 48, []), (1, 4, [12]), (0, 6, []), (1, 1, [14, 0, 0]), (2, 4, [15, 24, 33, 42]), (1, 5, [16, 18, 20, 22, 0]), (1, 4, [17]), (0, 100, []), (1, 4, [19]), (0, 6, []), (1, 4, [21]), (0, 48, []), (1, 4, [23]), (0, 6, []), (1, 5, [25, 27, 29, 31, 0]), (1, 4, [26]), (0, 100, []), (1, 4, [28]), (0, 6, []), (1, 4, [30]), (0, 48, []), (1, 4, [32]), (0, 6, []), (1, 5, [34, 36, 38, 40, 0]), (1, 4, [35]), (0, 100, []), (1, 4, [37]), (0, 6, []), (1, 4, [39]), (0, 48, []), (1, 4, [41]), (0, 6, []), (1, 5, [43, 45, 47, 49, 0]), (1, 4, [44]), (0, 100, []), (1, 4, [46]), (0, 6, []), (1, 4, [48]), (0, 48, []), (1, 4, [50]), (0, 6, []), (1, 4, [52]), (0, 8, []), (1, 4, [54]), (0, 3, []), (1, 2, [2, 56, 2, 2, 2]), (1, 4, [57]), (0, 101, [])]
def WL85 : List Sh := [(1, 6, [4, 13, 51, 53, 2, 2, 0, 0]), (1, 5, [5, 7, 9, 11, 0]), (1, 4, [6]), (0, 100, []), (1, 4, [8]), (0, 6, []), (1, 4, [10]), (0, 48, []), (1, 4, [12]), (0, 6, []), (1, 1, [14, 0, 0]), (2, 4, [15, 24, 33, 42]), (1, 5, [16, 18, 20, 22, 0]), (1, 4, [17]), (0, 100, []), (1, 4, [19]), (0, 6, []), (1, 4, [21]), (0, 48, []), (1, 4, [23]), (0, 6, []), (1, 5, [25, 27, 29, 31, 0]), (1, 4, [26]), (0, 100, []), (1, 4, [28]), (0, 6, []), (1, 4, [30]), (0, 48, []), (1, 4, [32]), (0, 6, []), (1, 5, [34, 36, 38, 40, 0]), (1, 4, [35]), (0, 100, []), (1, 4, [37]), (0, 6, []), (1, 4, [39]), (0, 48, []), (1, 4, [41]), (0, 6, []), (1, 5, [43, 45, 47, 49, 0]), (1, 4, [44]), (0, 100, []), (1, 4, [46]), (0, 6, []), (1, 4, [48]), (0, 48, []), (1, 4, [50]), (0, 6, []), (1, 4, [52]), (0, 8, []), (1, 4, [54]), (0, 3, []), (1, 2, [2, 56, 2, 2, 2]), (1, 4, [57]), (0, 101, []), (1, 4, [2])]
def WL86 : List Sh := [(1, 6, [4, 13, 51, 53, 2, 2, 0, 0]), (1, 5, [5, 7, 9, 11, 0]), (1, 4, [6]), (0, 100, []), (1, 4, [8]), (0, 6, []), (1, 4, [10]), (0, 48, []), (1, 4, [12]), (0, 6, []), (1, 1, [14, 0, 0]), (2, 4, [15, 24, 33, 42]), (1, 5, [16, 18, 20, 22, 0]), (1, 4, [17]), (0, 100, []), (1, 4, [19]), (0, 6, []), (1, 4, [21]), (0, 48, []), (1, 4, [23]), (0, 6, []), (1, 5, [25, 27, 29, 31, 0]), (1, 4, [26]), (0, 100, []), (1, 4, [28]), (0, 6, []), (1, 4, [30]), (0, 48, []), (1, 4, [32]), (0, 6, []), (1, 5, [34, 36, 38, 40, 0]), (1, 4, [35]), (0, 100, []), (1, 4, [37]), (0, 6, []), (1, 4, [39]), (0, 48, []), (1, 4, [41]), (0, 6, []), (1, 5, [43, 45, 47, 49, 0]), (1, 4, [44]), (0, 100, []), (1, 4, [46]), (0, 6, []), (1, 4, [48]), (0, 48, []), (1, 4, [50]), (0, 6, []), (1, 4, [52]), (0, 8, []), (1, 4, [54]), (0, 3, []), (1, 2, [2, 56, 2, 2, 2]), (1, 4, [57]), (0, 101, []), (1, 4, [59]), (0, 101, [])]
def WL87 : List Sh := [(1, 6, [4, 13, 51, 53, 2, 2, 0, 0]), (1, 5, [5, 7, 9, 11, 0]), (1, 4, [6]), (0, 100, []), (1, 4, [8]), (0, 6, []), (1, 4, [10]), (0, 48, []), (1, 4, [12]), (0, 6, []), (1, 1, [14, 0, 0]), (2, 4, [15, 24, 33, 42]), (1, 5, [16, 18, 20, 22, 0]), (1, 4, [17]), (0, 100, []), (1, 4, [19]), (0, 6, []), (1, 4, [21]), (0, 48, []), (1, 4, [23]), (0, 6, []), (1, 5, [25, 27, 29, 31, 0]), (1, 4, [26]), (0, 100, []), (1, 4, [28]), (0, 6, []), (1, 4, [30]), (0, 48, []), (1, 4, [32]), (0, 6, []), (1, 5, [34, 36, 38, 40, 0]), (1, 4, [35]), (0, 100, []), (1, 4, [37]), (0, 6, []), (1, 4, [39]), (0, 48, []), (1, 4, [41]), (0, 6, []), (1, 5, [43, 45, 47, 49, 0]), (1, 4, [44]), (0, 100, []), (1, 4, [46]), (0, 6, []), (1, 4, [48]), (0, 48, []), (1, 4, [50]), (0, 6, []), (1, 4, [52]), (0, 8, []), (1, 4, [54]), (0, 3, []), (1, 2, [2, 56, 58, 2, 2]), (1, 4, [57]), (0, 101, []), (1, 4, [59]), (0, 101, [])]
def WL88 : List Sh := [(1, 6, [4, 13, 51, 53, 2, 2, 0, 0]), (1, 5, [5, 7, 9, 11, 0]), (1, 4, [6]), (0, 100, []), (1, 4, [8]), (0, 6, []), (1, 4, [10]), (0, 48, []), (1, 4, [12]), (0, 6, []), (1, 1, [14, 0, 0]), (2, 4, [15, 24, 33, 42]), (1, 5, [16, 18, 20, 22, 0]), (1, 4, [17]), (0, 100, []), (1, 4, [19]), (0, 6, []), (1, 4, [21]), (0, 48, []), (1, 4, [23]), (0, 6, []), (1, 5, [25, 27, 29, 31, 0]), (1, 4, [26]), (0, 100, []), (1, 4, [28]), (0, 6, []), (1, 4, [30]), (0, 48, []), (1, 4, [32]), (0, 6, []), (1, 5, [34, 36, 38, 40, 0]), (1, 4, [35]), (0, 100, []), (1, 4, [37]), (0, 6, []), (1, 4, [39]), (0, 48, []), (1, 4, [41]), (0, 6, []), (1, 5, [43, 45, 47, 49, 0]), (1, 4, [44]), (0, 100, []), (1, 4, [46]), (0, 6, []), (1, 4, [48]), (0, 48, []), (1, 4, [50]), (0, 6, []), (1, 4, [52]), (0, 8, []), (1, 4, [54]), (0, 3, []), (1, 2, [2, 56, 58, 2, 2]), (1, 4, [57]), (0, 101, []), (1, 4, [59]), (0, 101, []), (1, 4, [2])]
def WL89 : List Sh := [(1, 6, [4, 13, 51, 53, 2, 2, 0, 0]), (1, 5, [5, 7, 9, 11, 0]), (1, 4, [6]), (0, 100, []), (1, 4, [8]), (0, 6, []), (1, 4, [10]), (0, 48, []), (1, 4, [12]), (0, 6, []), (1, 1, [14, 0, 0]), (2, 4, [15, 24, 33, 42]), (1, 5, [16, 18, 20, 22, 0]), (1, 4, [17]), (0, 100, []), (1, 4, [19]), (0, 6, []), (1, 4, [21]), (0, 48, []), (1, 4, [23]), (0, 6, []), (1, 5, [25, 27, 29, 31, 0]), (1, 4, [26]), (0, 100, []), (1, 4, [28]), (0, 6, []), (1, 4, [30]), (0, 48, []), (1, 4, [32]), (0, 6, []), (1, 5, [34, 36, 38, 40, 0]), (1, 4, [35]), (0, 100, []), (1, 4, [37]), (0, 6, []), (1, 4, [39]), (0, 48, []), (1, 4, [41]), (0, 6, []), (1, 5, [43, 45, 47, 49, 0]), (1, 4, [44]), (0, 100, []), (1, 4, [46]), (0, 6, []), (1, 4, [48]), (0, 48, []), (1, 4, [50]), (0, 6, []), (1, 4, [52]), (0, 8, []), (1, 4, [54]), (0, 3, []), (1, 2, [2, 56, 58, 2, 2]), (1, 4, [57]), (0, 101, []), (1, 4, [59]), (0, 101, []), (1, 4, [61]), (0, 101, [])]
def WL90 : List Sh := [(1, 6, [4, 13, 51, 53, 2, 2, 0, 0]), (1, 5, [5, 7, 9, 11, 0]), (1, 4, [6]), (0, 100, []), (1, 4, [8]), (0, 6, []), (1, 4, [10]), (0, 48, []), (1, 4, [12]), (0, 6, []), (1, 1, [14, 0, 0]), (2, 4, [15, 24, 33, 42]), (1, 5, [16, 18, 20, 22, 0]), (1, 4, [17]), (0, 100, []), (1, 4, [19]), (0, 6, []), (1, 4, [21]), (0, 48, []), (1, 4, [23]), (0, 6, []), (1, 5, [25, 27, 29, 31, 0]), (1, 4, [26]), (0, 100, []), (1, 4, [28]), (0, 6, []), (1, 4, [30]), (0, 48, []), (1, 4, [32]), (0, 6, []), (1, 5, [34, 36, 38, 40, 0]), (1, 4, [35]), (0, 100, []), (1, 4, [37]), (0, 6, []), (1, 4, [39]), (0, 48, []), (1, 4, [41]), (0, 6, []), (1, 5, [43, 45, 47, 49, 0]), (1, 4, [44]), (0, 100, []), (1, 4, [46]), (0, 6, []), (1, 4, [48]), (0, 48, []), (1, 4, [50]), (0, 6, []), (1, 4, [52]), (0, 8, []), (1, 4, [54]), (0, 3, []), (1, 2, [2, 56, 58, 60, 2]), (1, 4, [57]), (0, 101, []), (1, 4, [59]), (0, 101, []), (1, 4, [61]), (0, 101, [])]
def WL91 : List Sh := [(1, 6, [4, 13, 51, 53, 2, 2, 0, 0]), (1, 5, [5, 7, 9, 11, 0]), (1, 4, [6]), (0, 100, []), (1, 4, [8]), (0, 6, []), (1, 4, [10]), (0, 48, []), (1, 4, [12]), (0, 6, []), (1, 1, [14, 0, 0]), (2, 4, [15, 24, 33, 42]), (1, 5, [16, 18, 20, 22, 0]), (1, 4, [17]), (0, 100, []), (1, 4, [19]), (0, 6, []), (1, 4, [21]), (0, 48, []), (1, 4, [23]), (0, 6, []), (1, 5, [25, 27, 29, 31, 0]), (1, 4, [26]), (0, 100, []), (1, 4, [28]), (0, 6, []), (1, 4, [30]), (0, 48, []), (1, 4, [32]), (0, 6, []), (1, 5, [34, 36, 38, 40, 0]), (1, 4, [35]), (0, 100, []), (1, 4, [37]), (0, 6, []), (1, 4, [39]), (0, 48, []), (1, 4, [41]), (0, 6, []), (1, 5, [43, 45, 47, 49, 0]), (1, 4, [44]), (0, 100, []), (1, 4, [46]), (0, 6, []), (1, 4, [48]), (0, 48, []), (1, 4, [50]), (0, 6, []), (1, 4, [52]), (0, 8, []), (1, 4, [54]), (0, 3, []), (1, 2, [2, 56, 58, 60, 2]), (1, 4, [57]), (0, 101, []), (1, 4, [59]), (0, 101, []), (1, 4, [61]), (0, 101, []), (1, 0, [2])]
def WL92 : List Sh := [(1, 6, [4, 13, 51, 53, 2, 2, 0, 0]), (1, 5, [5, 7, 9, 11, 0]), (1, 4, [6]), (0, 100, []), (1, 4, [8]), (0, 6, []), (1, 4, [10]), (0, 48, []), (1, 4, [12]), (0, 6, []), (1, 1, [14, 0, 0]), (2, 4, [15, 24, 33, 42]), (1, 5, [16, 18, 20, 22, 0]), (1, 4, [17]), (0, 100, []), (1, 4, [19]), (0, 6, []), (1, 4, [21]), (0, 48, []), (1, 4, [23]), (0, 6, []), (1, 5, [25, 27, 29, 31, 0]), (1, 4, [26]), (0, 100, []), (1, 4, [28]), (0, 6, []), (1, 4, [30]), (0, 48, []), (1, 4, [32]), (0, 6, []), (1, 5, [34, 36, 38, 40, 0]), (1, 4, [35]), (0, 100, []), (1, 4, [37]), (0, 6, []), (1, 4, [39]), (0, 48, []), (1, 4, [41]), (0, 6, []), (1, 5, [43, 45, 47, 49, 0]), (1, 4, [44]), (0, 100, []), (1, 4, [46]), (0, 6, []), (1, 4, [48]), (0, 48, []), (1, 4, [50]), (0, 6, []), (1, 4, [52]), (0, 8, []), (1, 4, [54]), (0, 3, []), (1, 2, [2, 56, 58, 60, 2]), (1, 4, [57]), (0, 101, []), (1, 4, [59]), (0, 101, []), (1, 4, [61]), (0, 101, []), (1, 0, [2]), (0, 5454, [])]
def WL93 : List Sh := [(1, 6, [4, 13, 51, 53, 2, 2, 0, 0]), (1, 5, [5, 7, 9, 11, 0]), (1, 4, [6]), (0, 100, []), (1, 4, [8]), (0, 6, []), (1, 4, [10]), (0, 48, []), (1, 4, [12]), (0, 6, []), (1, 1, [14, 0, 0]), (2, 4, [15, 24, 33, 42]), (1, 5, [16, 18, 20, 22, 0]), (1, 4, [17]), (0, 100, []), (1, 4, [19]), (0, 6, []), (1, 4, [21]), (0, 48, []), (1, 4, [23]), (0, 6, []), (1, 5, [25, 27, 29, 31, 0]), (1, 4, [26]), (0, 100, []), (1, 4, [28]), (0, 6, []), (1, 4, [30]), (0, 48, []), (1, 4, [32]), (0, 6, []), (1, 5, [34, 36, 38, 40, 0]), (1, 4, [35]), (0, 100, []), (1, 4, [37]), (0, 6, []), (1, 4, [39]), (0, 48, []), (1, 4, [41]), (0, 6, []), (1, 5, [43, 45, 47, 49, 0]), (1, 4, [44]), (0, 100, []), (1, 4, [46]), (0, 6, []), (1, 4, [48]), (0, 48, []), (1, 4, [50]), (0, 6, []), (1, 4, [52]), (0, 8, []), (1, 4, [54]), (0, 3, []), (1, 2, [2, 56, 58, 60, 2]), (1, 4, [57]), (0, 101, []), (1, 4, [59]), (0, 101, []), (1, 4, [61]), (0, 101, []), (1, 0, [63]), (0, 5454, [])]
def sg_EndTable_59 (σ : St) : St := (ur σ 60 (fun _ => 0))
abbrev rc_EndTable_59 : Room := ({ frames := 1, cells := 1, slots := 5454, locals := 12 } : Room)
set_option maxHeartbeats 4000000 in
set_option maxRecDepth 100000 in
theorem cc_EndTable_59 (l : Launch) (w : GW) (g0 : Nat → Nat) (σ : St) (sz : Nat) (x59 : Nat) (a59 : g0 59 = x59) : Met l yX0_init (Cond.code yX0_init cX0_init 1 none :: wsL_law) rc_EndTable_59 (gPcC (gw w g0) WL91 σ sz [.ref x59]) (gQc w g0 WL91.length sz WL93 (sg_EndTable_59 σ)) 1 5454 (gA (gw w g0) WL91.length sz) := by
  refine g_metC (by decide) [.ref x59] (Nat.le_of_ble_eq_true rfl) ?_
  intro p e s m below meth c ls hz C0 hin hao hl G
  obtain ⟨hx, hb, hr, hml, hown, hts, hlk, hNw, hA⟩ := id C0
  have hown : s.vm.findClass RX0 = some m.cls := hown
  have hl : lv_has ls 1 [(0, .ref x59)] := hl
  have E : ∀ k, k < 60 → g0 k = g0 k := fun _ _ => rfl
  refine lv_aload_n hx hb dX0_init_0 rfl (lv_at hl 0 rfl) ?_
  refine g_objI hx hb hml hts hown wm_80 wm_10 wm_11 hl.1 (Nat.le_of_ble_eq_true rfl) (Nat.le_of_ble_eq_true rfl) dX0_init_1 ?_
  refine lv_aload_n hx hb dX0_init_4 rfl (lv_at hl 0 rfl) ?_
  refine lv_sipush (v := iz 5454) hx hb dX0_init_5 (by decide +kernel) ?_
  refine g_newI (n := 60) hx hb hts G hA rfl (by decide +kernel) wm_49 5454 rfl (by decide) (Nat.le_of_ble_eq_true rfl) (Nat.le_of_ble_eq_true rfl) dX0_init_8 (show _ = WL92 from rfl) (fun g x60 H a60 hg G => ?_)
  have a59 := (hg 59 (Nat.le_of_ble_eq_true rfl)).trans a59
  have E : ∀ k, k < 60 → g k = g0 k := fun k hk => (hg k (Nat.lt_of_lt_of_le hk (Nat.le_of_ble_eq_true rfl))).trans (E k hk)
  refine W.widen (k := 1) (n := 5454) (Nat.le_of_ble_eq_true rfl) (Nat.le_of_ble_eq_true rfl) ?_
  refine g_putF (k := 59) (ci := 0) (cs := [2]) hx hb hts hown 0 60 inlX0 tyX0 tyX0_ok nmX0 G rfl rfl (by decide) (by decide) wm_81 rfl hin rfl rfl rfl dX0_init_10 a59 a60 (show _ = WL93 from rfl) (fun H locs G => ?_)
  exact g_cret (n0 := 60) hx hb hr hlk rfl hz E G (Nat.le_of_ble_eq_true rfl) (Nat.le_of_ble_eq_true rfl) dX0_init_13
def WL94 : List Sh := [(1, 6, [4, 13, 51, 53, 2, 2, 0, 0]), (1, 5, [5, 7, 9, 11, 0]), (1, 4, [6]), (0, 100, []), (1, 4, [8]), (0, 6, []), (1, 4, [10]), (0, 48, []), (1, 4, [12]), (0, 6, []), (1, 1, [14, 0, 0]), (2, 4, [15, 24, 33, 42]), (1, 5, [16, 18, 20, 22, 0]), (1, 4, [17]), (0, 100, []), (1, 4, [19]), (0, 6, []), (1, 4, [21]), (0, 48, []), (1, 4, [23]), (0, 6, []), (1, 5, [25, 27, 29, 31, 0]), (1, 4, [26]), (0, 100, []), (1, 4, [28]), (0, 6, []), (1, 4, [30]), (0, 48, []), (1, 4, [32]), (0, 6, []), (1, 5, [34, 36, 38, 40, 0]), (1, 4, [35]), (0, 100, []), (1, 4, [37]), (0, 6, []), (1, 4, [39]), (0, 48, []), (1, 4, [41]), (0, 6, []), (1, 5, [43, 45, 47, 49, 0]), (1, 4, [44]), (0, 100, []), (1, 4, [46]), (0, 6, []), (1, 4, [48]), (0, 48, []), (1, 4, [50]), (0, 6, []), (1, 4, [52]), (0, 8, []), (1, 4, [54]), (0, 3, []), (1, 2, [2, 56, 58, 60, 62]), (1, 4, [57]), (0, 101, []), (1, 4, [59]), (0, 101, []), (1, 4, [61]), (0, 101, []), (1, 0, [63]), (0, 5454, [])]
def WL95 : List Sh := [(1, 6, [4, 13, 51, 53, 2, 2, 0, 0]), (1, 5, [5, 7, 9, 11, 0]), (1, 4, [6]), (0, 100, []), (1, 4, [8]), (0, 6, []), (1, 4, [10]), (0, 48, []), (1, 4, [12]), (0, 6, []), (1, 1, [14, 0, 0]), (2, 4, [15, 24, 33, 42]), (1, 5, [16, 18, 20, 22, 0]), (1, 4, [17]), (0, 100, []), (1, 4, [19]), (0, 6, []), (1, 4, [21]), (0, 48, []), (1, 4, [23]), (0, 6, []), (1, 5, [25, 27, 29, 31, 0]), (1, 4, [26]), (0, 100, []), (1, 4, [28]), (0, 6, []), (1, 4, [30]), (0, 48, []), (1, 4, [32]), (0, 6, []), (1, 5, [34, 36, 38, 40, 0]), (1, 4, [35]), (0, 100, []), (1, 4, [37]), (0, 6, []), (1, 4, [39]), (0, 48, []), (1, 4, [41]), (0, 6, []), (1, 5, [43, 45, 47, 49, 0]), (1, 4, [44]), (0, 100, []), (1, 4, [46]), (0, 6, []), (1, 4, [48]), (0, 48, []), (1, 4, [50]), (0, 6, []), (1, 4, [52]), (0, 8, []), (1, 4, [54]), (0, 3, []), (1, 2, [4, 56, 58, 60, 62]), (1, 4, [57]), (0, 101, []), (1, 4, [59]), (0, 101, []), (1, 4, [61]), (0, 101, []), (1, 0, [63]), (0, 5454, [])]
def sg_Matcher_52 (σ : St) : St := (sg_EndTable_59 (ur (ur (ur (ur (ur (ur (ur σ 53 (fun _ => 0)) 54 (fun _ => 0)) 55 (fun _ => 0)) 56 (fun _ => 0)) 57 (fun _ => 0)) 58 (fun _ => 0)) 59 (fun _ => 0)))
abbrev rc_Matcher_52 : Room := ({ frames := 2, cells := 8, slots := 5761, locals := 33 } : Room)
set_option maxHeartbeats 4000000 in
set_option maxRecDepth 100000 in
theorem cc_Matcher_52 (l : Launch) (w : GW) (g0 : Nat → Nat) (σ : St) (sz : Nat) (x52 : Nat) (a52 : g0 52 = x52) (x1 : Nat) (a1 : g0 1 = x1) : Met l yX2_init (Cond.code yX2_init cX2_init 2 none :: wsL_law) rc_Matcher_52 (gPcC (gw w g0) WL81 σ sz [.ref x52, .ref x1]) (gQc w g0 WL81.length sz WL95 (sg_Matcher_52 σ)) 8 5761 (gA (gw w g0) WL81.length sz) := by
  refine g_metC (by decide) [.ref x52, .ref x1] (Nat.le_of_ble_eq_true rfl) ?_
  intro p e s m below meth c ls hz C0 hin hao hl G
  obtain ⟨hx, hb, hr, hml, hown, hts, hlk, hNw, hA⟩ := id C0
  have hown : s.vm.findClass RX2 = some m.cls := hown
  have hl : lv_has ls 2 [(0, .ref x52), (1, .ref x1)] := hl
  have E : ∀ k, k < 53 → g0 k = g0 k := fun _ _ => rfl
  refine lv_aload_n hx hb dX2_init_0 rfl (lv_at hl 0 rfl) ?_
  refine g_objI hx hb hml hts hown wm_67 wm_10 wm_11 hl.1 (Nat.le_of_ble_eq_true rfl) (Nat.le_of_ble_eq_true rfl) dX2_init_1 ?_
  refine lv_aload_n hx hb dX2_init_4 rfl (lv_at hl 0 rfl) ?_
  refine g_newO (n := 53) (ci := 4) (C := RX4) (T := TX4) (N := 1) hx hb hts hown [2] inlX4 tyX4 tyX4_ok G hA rfl (by decide +kernel) rfl (fun j hj => by rcases (show j = 0 by omega) with rfl <;> rfl) (by decide) wm_68 wm_21 wm_22 (Nat.le_of_ble_eq_true rfl) (Nat.le_of_ble_eq_true rfl) dX2_init_5 (show _ = WL82 from rfl) (fun g x53 H a53 hg G => ?_)
  have a52 := (hg 52 (Nat.le_of_ble_eq_true rfl)).trans a52
  have a1 := (hg 1 (Nat.le_of_ble_eq_true rfl)).trans a1
  have E : ∀ k, k < 53 → g k = g0 k := fun k hk => (hg k (Nat.lt_of_lt_of_le hk (Nat.le_of_ble_eq_true rfl))).trans (E k hk)
  refine W.widen (k := 1) (n := 1) (Nat.le_of_ble_eq_true rfl) (Nat.le_of_ble_eq_true rfl) ?_
  refine lv_dup hx hb dX2_init_8 rfl ?_
  refine lv_bipush (v := iz 101) hx hb dX2_init_9 (by decide +kernel) ?_
  refine g_callC (n := 1) (rest := [.ref x53, .ref x52]) (n0 := 54) hx hb hml hts hown hNw hao hA G [.int (iz 101)] (c4_init l w _ _ _ 53 101 54 x53 a53 rfl (by decide +kernel) rfl (by decide) (i := 101) rfl (show _ = WL83 from rfl)) rfl wm_77 wm_46 wm_22 wm_47 rfl ⟨by decide +kernel, by decide +kernel, by decide +kernel⟩ ⟨rfl, rfl, (Nat.le_of_ble_eq_true rfl), (Nat.le_of_ble_eq_true rfl)⟩ rfl hl.1 (Nat.le_of_ble_eq_true rfl) rfl dX2_init_11 ⟨(Nat.le_of_ble_eq_true rfl), (Nat.le_of_ble_eq_true rfl)⟩ (fun g H locs hg G => ?_)
  have a52 := (hg 52 (Nat.le_of_ble_eq_true rfl)).trans a52
  have a1 := (hg 1 (Nat.le_of_ble_eq_true rfl)).trans a1
  have a53 := (hg 53 (Nat.le_of_ble_eq_true rfl)).trans a53
  have E : ∀ k, k < 53 → g k = g0 k := fun k hk => (hg k (Nat.lt_of_lt_of_le hk (Nat.le_of_ble_eq_true rfl))).trans (E k hk)
  refine W.widen (k := 2) (n := 102) (Nat.le_of_ble_eq_true rfl) (Nat.le_of_ble_eq_true rfl) ?_
  refine g_putF (k := 52) (ci := 2) (cs := [2, 2, 2, 2, 2]) hx hb hts hown 1 53 inlX2 tyX2 tyX2_ok nmX2 G rfl rfl (by decide) (by decide) wm_69 rfl hin rfl rfl rfl dX2_init_14 a52 a53 (show _ = WL84 from rfl) (fun H locs G => ?_)
  refine lv_aload_n hx hb dX2_init_17 rfl (lv_at hl 0 rfl) ?_
  refine g_newO (n := 55) (ci := 4) (C := RX4) (T := TX4) (N := 1) hx hb hts hown [2] inlX4 tyX4 tyX4_ok G hA rfl (by decide +kernel) rfl (fun j hj => by rcases (show j = 0 by omega) with rfl <;> rfl) (by decide) wm_68 wm_21 wm_22 (Nat.le_of_ble_eq_true rfl) (Nat.le_of_ble_eq_true rfl) dX2_init_18 (show _ = WL85 from rfl) (fun g x55 H a55 hg G => ?_)
  have a52 := (hg 52 (Nat.le_of_ble_eq_true rfl)).trans a52
  have a1 := (hg 1 (Nat.le_of_ble_eq_true rfl)).trans a1
  have a53 := (hg 53 (Nat.le_of_ble_eq_true rfl)).trans a53
  have E : ∀ k, k < 53 → g k = g0 k := fun k hk => (hg k (Nat.lt_of_lt_of_le hk (Nat.le_of_ble_eq_true rfl))).trans (E k hk)
  refine W.widen (k := 3) (n := 103) (Nat.le_of_ble_eq_true rfl) (Nat.le_of_ble_eq_true rfl) ?_
  refine lv_dup hx hb dX2_init_21 rfl ?_
  refine lv_bipush (v := iz 101) hx hb dX2_init_22 (by decide +kernel) ?_
  refine g_callC (n := 1) (rest := [.ref x55, .ref x52]) (n0 := 56) hx hb hml hts hown hNw hao hA G [.int (iz 101)] (c4_init l w _ _ _ 55 101 56 x55 a55 rfl (by decide +kernel) rfl (by decide) (i := 101) rfl (show _ = WL86 from rfl)) rfl wm_77 wm_46 wm_22 wm_47 rfl ⟨by decide +kernel, by decide +kernel, by decide +kernel⟩ ⟨rfl, rfl, (Nat.le_of_ble_eq_true rfl), (Nat.le_of_ble_eq_true rfl)⟩ rfl hl.1 (Nat.le_of_ble_eq_true rfl) rfl dX2_init_24 ⟨(Nat.le_of_ble_eq_true rfl), (Nat.le_of_ble_eq_true rfl)⟩ (fun g H locs hg G => ?_)
  have a52 := (hg 52 (Nat.le_of_ble_eq_true rfl)).trans a52
  have a1 := (hg 1 (Nat.le_of_ble_eq_true rfl)).trans a1
  have a53 := (hg 53 (Nat.le_of_ble_eq_true rfl)).trans a53
  have a55 := (hg 55 (Nat.le_of_ble_eq_true rfl)).trans a55
  have E : ∀ k, k < 53 → g k = g0 k := fun k hk => (hg k (Nat.lt_of_lt_of_le hk (Nat.le_of_ble_eq_true rfl))).trans (E k hk)
  refine W.widen (k := 4) (n := 204) (Nat.le_of_ble_eq_true rfl) (Nat.le_of_ble_eq_true rfl) ?_
  refine g_putF (k := 52) (ci := 2) (cs := [2, 56, 2, 2, 2]) hx hb hts hown 2 55 inlX2 tyX2 tyX2_ok nmX2 G rfl rfl (by decide) (by decide) wm_70 rfl hin rfl rfl rfl dX2_init_27 a52 a55 (show _ = WL87 from rfl) (fun H locs G => ?_)
  refine lv_aload_n hx hb dX2_init_30 rfl (lv_at hl 0 rfl) ?_
  refine g_newO (n := 57) (ci := 4) (C := RX4) (T := TX4) (N := 1) hx hb hts hown [2] inlX4 tyX4 tyX4_ok G hA rfl (by decide +kernel) rfl (fun j hj => by rcases (show j = 0 by omega) with rfl <;> rfl) (by decide) wm_68 wm_21 wm_22 (Nat.le_of_ble_eq_true rfl) (Nat.le_of_ble_eq_true rfl) dX2_init_31 (show _ = WL88 from rfl) (fun g x57 H a57 hg G => ?_)
  have a52 := (hg 52 (Nat.le_of_ble_eq_true rfl)).trans a52
  have a1 := (hg 1 (Nat.le_of_ble_eq_true rfl)).trans a1
  have a53 := (hg 53 (Nat.le_of_ble_eq_true rfl)).trans a53
  have a55 := (hg 55 (Nat.le_of_ble_eq_true rfl)).trans a55
  have E : ∀ k, k < 53 → g k = g0 k := fun k hk => (hg k (Nat.lt_of_lt_of_le hk (Nat.le_of_ble_eq_true rfl))).trans (E k hk)
  refine W.widen (k := 5) (n := 205) (Nat.le_of_ble_eq_true rfl) (Nat.le_of_ble_eq_true rfl) ?_
  refine lv_dup hx hb dX2_init_34 rfl ?_
  refine lv_bipush (v := iz 101) hx hb dX2_init_35 (by decide +kernel) ?_
  refine g_callC (n := 1) (rest := [.ref x57, .ref x52]) (n0 := 58) hx hb hml hts hown hNw hao hA G [.int (iz 101)] (c4_init l w _ _ _ 57 101 58 x57 a57 rfl (by decide +kernel) rfl (by decide) (i := 101) rfl (show _ = WL89 from rfl)) rfl wm_77 wm_46 wm_22 wm_47 rfl ⟨by decide +kernel, by decide +kernel, by decide +kernel⟩ ⟨rfl, rfl, (Nat.le_of_ble_eq_true rfl), (Nat.le_of_ble_eq_true rfl)⟩ rfl hl.1 (Nat.le_of_ble_eq_true rfl) rfl dX2_init_37 ⟨(Nat.le_of_ble_eq_true rfl), (Nat.le_of_ble_eq_true rfl)⟩ (fun g H locs hg G => ?_)
  have a52 := (hg 52 (Nat.le_of_ble_eq_true rfl)).trans a52
  have a1 := (hg 1 (Nat.le_of_ble_eq_true rfl)).trans a1
  have a53 := (hg 53 (Nat.le_of_ble_eq_true rfl)).trans a53
  have a55 := (hg 55 (Nat.le_of_ble_eq_true rfl)).trans a55
  have a57 := (hg 57 (Nat.le_of_ble_eq_true rfl)).trans a57
  have E : ∀ k, k < 53 → g k = g0 k := fun k hk => (hg k (Nat.lt_of_lt_of_le hk (Nat.le_of_ble_eq_true rfl))).trans (E k hk)
  refine W.widen (k := 6) (n := 306) (Nat.le_of_ble_eq_true rfl) (Nat.le_of_ble_eq_true rfl) ?_
  refine g_putF (k := 52) (ci := 2) (cs := [2, 56, 58, 2, 2]) hx hb hts hown 3 57 inlX2 tyX2 tyX2_ok nmX2 G rfl rfl (by decide) (by decide) wm_71 rfl hin rfl rfl rfl dX2_init_40 a52 a57 (show _ = WL90 from rfl) (fun H locs G => ?_)
  refine lv_aload_n hx hb dX2_init_43 rfl (lv_at hl 0 rfl) ?_
  refine g_newO (n := 59) (ci := 0) (C := RX0) (T := TX0) (N := 1) hx hb hts hown [2] inlX0 tyX0 tyX0_ok G hA rfl (by decide +kernel) rfl (fun j hj => by rcases (show j = 0 by omega) with rfl <;> rfl) (by decide) wm_72 wm_73 wm_74 (Nat.le_of_ble_eq_true rfl) (Nat.le_of_ble_eq_true rfl) dX2_init_44 (show _ = WL91 from rfl) (fun g x59 H a59 hg G => ?_)
  have a52 := (hg 52 (Nat.le_of_ble_eq_true rfl)).trans a52
  have a1 := (hg 1 (Nat.le_of_ble_eq_true rfl)).trans a1
  have a53 := (hg 53 (Nat.le_of_ble_eq_true rfl)).trans a53
  have a55 := (hg 55 (Nat.le_of_ble_eq_true rfl)).trans a55
  have a57 := (hg 57 (Nat.le_of_ble_eq_true rfl)).trans a57
  have E : ∀ k, k < 53 → g k = g0 k := fun k hk => (hg k (Nat.lt_of_lt_of_le hk (Nat.le_of_ble_eq_true rfl))).trans (E k hk)
  refine W.widen (k := 7) (n := 307) (Nat.le_of_ble_eq_true rfl) (Nat.le_of_ble_eq_true rfl) ?_
  refine lv_dup hx hb dX2_init_47 rfl ?_
  refine g_callCN (n := 0) (host := "IslandGrammar") (rest := [.ref x59, .ref x52]) (n0 := 60) hx hb hml hts hown hNw hao hA G [] (cc_EndTable_59 l w _ _ _ x59 a59) rfl (List.mem_of_getElem? (i := 1) rfl) wm_78 wm_74 wm_79 rfl ⟨by decide +kernel, by decide +kernel, by decide +kernel⟩ ⟨rfl, rfl, (Nat.le_of_ble_eq_true rfl), (Nat.le_of_ble_eq_true rfl)⟩ rfl hl.1 (Nat.le_of_ble_eq_true rfl) rfl dX2_init_48 ⟨(Nat.le_of_ble_eq_true rfl), (Nat.le_of_ble_eq_true rfl)⟩ (fun g H locs hg G => ?_)
  have a52 := (hg 52 (Nat.le_of_ble_eq_true rfl)).trans a52
  have a1 := (hg 1 (Nat.le_of_ble_eq_true rfl)).trans a1
  have a53 := (hg 53 (Nat.le_of_ble_eq_true rfl)).trans a53
  have a55 := (hg 55 (Nat.le_of_ble_eq_true rfl)).trans a55
  have a57 := (hg 57 (Nat.le_of_ble_eq_true rfl)).trans a57
  have a59 := (hg 59 (Nat.le_of_ble_eq_true rfl)).trans a59
  have E : ∀ k, k < 53 → g k = g0 k := fun k hk => (hg k (Nat.lt_of_lt_of_le hk (Nat.le_of_ble_eq_true rfl))).trans (E k hk)
  refine W.widen (k := 8) (n := 5761) (Nat.le_of_ble_eq_true rfl) (Nat.le_of_ble_eq_true rfl) ?_
  refine g_putF (k := 52) (ci := 2) (cs := [2, 56, 58, 60, 2]) hx hb hts hown 4 59 inlX2 tyX2 tyX2_ok nmX2 G rfl rfl (by decide) (by decide) wm_75 rfl hin rfl rfl rfl dX2_init_51 a52 a59 (show _ = WL94 from rfl) (fun H locs G => ?_)
  refine lv_aload_n hx hb dX2_init_54 rfl (lv_at hl 0 rfl) ?_
  refine lv_aload_n hx hb dX2_init_55 rfl (lv_at hl 1 rfl) ?_
  refine g_putF (k := 52) (ci := 2) (cs := [2, 56, 58, 60, 62]) hx hb hts hown 0 1 inlX2 tyX2 tyX2_ok nmX2 G rfl rfl (by decide) (by decide) wm_76 rfl hin rfl rfl rfl dX2_init_56 a52 a1 (show _ = WL95 from rfl) (fun H locs G => ?_)
  exact g_cret (n0 := 53) hx hb hr hlk rfl hz E G (Nat.le_of_ble_eq_true rfl) (Nat.le_of_ble_eq_true rfl) dX2_init_59
def WL96 : List Sh := [(1, 6, [4, 13, 51, 53, 55, 2, 0, 0]), (1, 5, [5, 7, 9, 11, 0]), (1, 4, [6]), (0, 100, []), (1, 4, [8]), (0, 6, []), (1, 4, [10]), (0, 48, []), (1, 4, [12]), (0, 6, []), (1, 1, [14, 0, 0]), (2, 4, [15, 24, 33, 42]), (1, 5, [16, 18, 20, 22, 0]), (1, 4, [17]), (0, 100, []), (1, 4, [19]), (0, 6, []), (1, 4, [21]), (0, 48, []), (1, 4, [23]), (0, 6, []), (1, 5, [25, 27, 29, 31, 0]), (1, 4, [26]), (0, 100, []), (1, 4, [28]), (0, 6, []), (1, 4, [30]), (0, 48, []), (1, 4, [32]), (0, 6, []), (1, 5, [34, 36, 38, 40, 0]), (1, 4, [35]), (0, 100, []), (1, 4, [37]), (0, 6, []), (1, 4, [39]), (0, 48, []), (1, 4, [41]), (0, 6, []), (1, 5, [43, 45, 47, 49, 0]), (1, 4, [44]), (0, 100, []), (1, 4, [46]), (0, 6, []), (1, 4, [48]), (0, 48, []), (1, 4, [50]), (0, 6, []), (1, 4, [52]), (0, 8, []), (1, 4, [54]), (0, 3, []), (1, 2, [4, 56, 58, 60, 62]), (1, 4, [57]), (0, 101, []), (1, 4, [59]), (0, 101, []), (1, 4, [61]), (0, 101, []), (1, 0, [63]), (0, 5454, [])]
def WL97 : List Sh := [(1, 6, [4, 13, 51, 53, 55, 2, 0, 0]), (1, 5, [5, 7, 9, 11, 0]), (1, 4, [6]), (0, 100, []), (1, 4, [8]), (0, 6, []), (1, 4, [10]), (0, 48, []), (1, 4, [12]), (0, 6, []), (1, 1, [14, 0, 0]), (2, 4, [15, 24, 33, 42]), (1, 5, [16, 18, 20, 22, 0]), (1, 4, [17]), (0, 100, []), (1, 4, [19]), (0, 6, []), (1, 4, [21]), (0, 48, []), (1, 4, [23]), (0, 6, []), (1, 5, [25, 27, 29, 31, 0]), (1, 4, [26]), (0, 100, []), (1, 4, [28]), (0, 6, []), (1, 4, [30]), (0, 48, []), (1, 4, [32]), (0, 6, []), (1, 5, [34, 36, 38, 40, 0]), (1, 4, [35]), (0, 100, []), (1, 4, [37]), (0, 6, []), (1, 4, [39]), (0, 48, []), (1, 4, [41]), (0, 6, []), (1, 5, [43, 45, 47, 49, 0]), (1, 4, [44]), (0, 100, []), (1, 4, [46]), (0, 6, []), (1, 4, [48]), (0, 48, []), (1, 4, [50]), (0, 6, []), (1, 4, [52]), (0, 8, []), (1, 4, [54]), (0, 3, []), (1, 2, [4, 56, 58, 60, 62]), (1, 4, [57]), (0, 101, []), (1, 4, [59]), (0, 101, []), (1, 4, [61]), (0, 101, []), (1, 0, [63]), (0, 5454, []), (1, 3, [2, 2, 2, 2, 2, 2, 2, 2, 2, 2, 2, 0, 0, 0, 0, 0])]
def WL98 : List Sh := [(1, 6, [4, 13, 51, 53, 55, 2, 0, 0]), (1, 5, [5, 7, 9, 11, 0]), (1, 4, [6]), (0, 100, []), (1, 4, [8]), (0, 6, []), (1, 4, [10]), (0, 48, []), (1, 4, [12]), (0, 6, []), (1, 1, [14, 0, 0]), (2, 4, [15, 24, 33, 42]), (1, 5, [16, 18, 20, 22, 0]), (1, 4, [17]), (0, 100, []), (1, 4, [19]), (0, 6, []), (1, 4, [21]), (0, 48, []), (1, 4, [23]), (0, 6, []), (1, 5, [25, 27, 29, 31, 0]), (1, 4, [26]), (0, 100, []), (1, 4, [28]), (0, 6, []), (1, 4, [30]), (0, 48, []), (1, 4, [32]), (0, 6, []), (1, 5, [34, 36, 38, 40, 0]), (1, 4, [35]), (0, 100, []), (1, 4, [37]), (0, 6, []), (1, 4, [39]), (0, 48, []), (1, 4, [41]), (0, 6, []), (1, 5, [43, 45, 47, 49, 0]), (1, 4, [44]), (0, 100, []), (1, 4, [46]), (0, 6, []), (1, 4, [48]), (0, 48, []), (1, 4, [50]), (0, 6, []), (1, 4, [52]), (0, 8, []), (1, 4, [54]), (0, 3, []), (1, 2, [4, 56, 58, 60, 62]), (1, 4, [57]), (0, 101, []), (1, 4, [59]), (0, 101, []), (1, 4, [61]), (0, 101, []), (1, 0, [63]), (0, 5454, []), (1, 3, [2, 2, 2, 2, 2, 2, 2, 2, 2, 2, 2, 0, 0, 0, 0, 0]), (1, 4, [2])]
def WL99 : List Sh := [(1, 6, [4, 13, 51, 53, 55, 2, 0, 0]), (1, 5, [5, 7, 9, 11, 0]), (1, 4, [6]), (0, 100, []), (1, 4, [8]), (0, 6, []), (1, 4, [10]), (0, 48, []), (1, 4, [12]), (0, 6, []), (1, 1, [14, 0, 0]), (2, 4, [15, 24, 33, 42]), (1, 5, [16, 18, 20, 22, 0]), (1, 4, [17]), (0, 100, []), (1, 4, [19]), (0, 6, []), (1, 4, [21]), (0, 48, []), (1, 4, [23]), (0, 6, []), (1, 5, [25, 27, 29, 31, 0]), (1, 4, [26]), (0, 100, []), (1, 4, [28]), (0, 6, []), (1, 4, [30]), (0, 48, []), (1, 4, [32]), (0, 6, []), (1, 5, [34, 36, 38, 40, 0]), (1, 4, [35]), (0, 100, []), (1, 4, [37]), (0, 6, []), (1, 4, [39]), (0, 48, []), (1, 4, [41]), (0, 6, []), (1, 5, [43, 45, 47, 49, 0]), (1, 4, [44]), (0, 100, []), (1, 4, [46]), (0, 6, []), (1, 4, [48]), (0, 48, []), (1, 4, [50]), (0, 6, []), (1, 4, [52]), (0, 8, []), (1, 4, [54]), (0, 3, []), (1, 2, [4, 56, 58, 60, 62]), (1, 4, [57]), (0, 101, []), (1, 4, [59]), (0, 101, []), (1, 4, [61]), (0, 101, []), (1, 0, [63]), (0, 5454, []), (1, 3, [2, 2, 2, 2, 2, 2, 2, 2, 2, 2, 2, 0, 0, 0, 0, 0]), (1, 4, [66]), (0, 100, [])]
def WL100 : List Sh := [(1, 6, [4, 13, 51, 53, 55, 2, 0, 0]), (1, 5, [5, 7, 9, 11, 0]), (1, 4, [6]), (0, 100, []), (1, 4, [8]), (0, 6, []), (1, 4, [10]), (0, 48, []), (1, 4, [12]), (0, 6, []), (1, 1, [14, 0, 0]), (2, 4, [15, 24, 33, 42]), (1, 5, [16, 18, 20, 22, 0]), (1, 4, [17]), (0, 100, []), (1, 4, [19]), (0, 6, []), (1, 4, [21]), (0, 48, []), (1, 4, [23]), (0, 6, []), (1, 5, [25, 27, 29, 31, 0]), (1, 4, [26]), (0, 100, []), (1, 4, [28]), (0, 6, []), (1, 4, [30]), (0, 48, []), (1, 4, [32]), (0, 6, []), (1, 5, [34, 36, 38, 40, 0]), (1, 4, [35]), (0, 100, []), (1, 4, [37]), (0, 6, []), (1, 4, [39]), (0, 48, []), (1, 4, [41]), (0, 6, []), (1, 5, [43, 45, 47, 49, 0]), (1, 4, [44]), (0, 100, []), (1, 4, [46]), (0, 6, []), (1, 4, [48]), (0, 48, []), (1, 4, [50]), (0, 6, []), (1, 4, [52]), (0, 8, []), (1, 4, [54]), (0, 3, []), (1, 2, [4, 56, 58, 60, 62]), (1, 4, [57]), (0, 101, []), (1, 4, [59]), (0, 101, []), (1, 4, [61]), (0, 101, []), (1, 0, [63]), (0, 5454, []), (1, 3, [2, 2, 65, 2, 2, 2, 2, 2, 2, 2, 2, 0, 0, 0, 0, 0]), (1, 4, [66]), (0, 100, [])]
def WL101 : List Sh := [(1, 6, [4, 13, 51, 53, 55, 2, 0, 0]), (1, 5, [5, 7, 9, 11, 0]), (1, 4, [6]), (0, 100, []), (1, 4, [8]), (0, 6, []), (1, 4, [10]), (0, 48, []), (1, 4, [12]), (0, 6, []), (1, 1, [14, 0, 0]), (2, 4, [15, 24, 33, 42]), (1, 5, [16, 18, 20, 22, 0]), (1, 4, [17]), (0, 100, []), (1, 4, [19]), (0, 6, []), (1, 4, [21]), (0, 48, []), (1, 4, [23]), (0, 6, []), (1, 5, [25, 27, 29, 31, 0]), (1, 4, [26]), (0, 100, []), (1, 4, [28]), (0, 6, []), (1, 4, [30]), (0, 48, []), (1, 4, [32]), (0, 6, []), (1, 5, [34, 36, 38, 40, 0]), (1, 4, [35]), (0, 100, []), (1, 4, [37]), (0, 6, []), (1, 4, [39]), (0, 48, []), (1, 4, [41]), (0, 6, []), (1, 5, [43, 45, 47, 49, 0]), (1, 4, [44]), (0, 100, []), (1, 4, [46]), (0, 6, []), (1, 4, [48]), (0, 48, []), (1, 4, [50]), (0, 6, []), (1, 4, [52]), (0, 8, []), (1, 4, [54]), (0, 3, []), (1, 2, [4, 56, 58, 60, 62]), (1, 4, [57]), (0, 101, []), (1, 4, [59]), (0, 101, []), (1, 4, [61]), (0, 101, []), (1, 0, [63]), (0, 5454, []), (1, 3, [2, 2, 65, 2, 2, 2, 2, 2, 2, 2, 2, 0, 0, 0, 0, 0]), (1, 4, [66]), (0, 100, []), (1, 4, [2])]
def WL102 : List Sh := [(1, 6, [4, 13, 51, 53, 55, 2, 0, 0]), (1, 5, [5, 7, 9, 11, 0]), (1, 4, [6]), (0, 100, []), (1, 4, [8]), (0, 6, []), (1, 4, [10]), (0, 48, []), (1, 4, [12]), (0, 6, []), (1, 1, [14, 0, 0]), (2, 4, [15, 24, 33, 42]), (1, 5, [16, 18, 20, 22, 0]), (1, 4, [17]), (0, 100, []), (1, 4, [19]), (0, 6, []), (1, 4, [21]), (0, 48, []), (1, 4, [23]), (0, 6, []), (1, 5, [25, 27, 29, 31, 0]), (1, 4, [26]), (0, 100, []), (1, 4, [28]), (0, 6, []), (1, 4, [30]), (0, 48, []), (1, 4, [32]), (0, 6, []), (1, 5, [34, 36, 38, 40, 0]), (1, 4, [35]), (0, 100, []), (1, 4, [37]), (0, 6, []), (1, 4, [39]), (0, 48, []), (1, 4, [41]), (0, 6, []), (1, 5, [43, 45, 47, 49, 0]), (1, 4, [44]), (0, 100, []), (1, 4, [46]), (0, 6, []), (1, 4, [48]), (0, 48, []), (1, 4, [50]), (0, 6, []), (1, 4, [52]), (0, 8, []), (1, 4, [54]), (0, 3, []), (1, 2, [4, 56, 58, 60, 62]), (1, 4, [57]), (0, 101, []), (1, 4, [59]), (0, 101, []), (1, 4, [61]), (0, 101, []), (1, 0, [63]), (0, 5454, []), (1, 3, [2, 2, 65, 2, 2, 2, 2, 2, 2, 2, 2, 0, 0, 0, 0, 0]), (1, 4, [66]), (0, 100, []), (1, 4, [68]), (0, 100, [])]
def WL103 : List Sh := [(1, 6, [4, 13, 51, 53, 55, 2, 0, 0]), (1, 5, [5, 7, 9, 11, 0]), (1, 4, [6]), (0, 100, []), (1, 4, [8]), (0, 6, []), (1, 4, [10]), (0, 48, []), (1, 4, [12]), (0, 6, []), (1, 1, [14, 0, 0]), (2, 4, [15, 24, 33, 42]), (1, 5, [16, 18, 20, 22, 0]), (1, 4, [17]), (0, 100, []), (1, 4, [19]), (0, 6, []), (1, 4, [21]), (0, 48, []), (1, 4, [23]), (0, 6, []), (1, 5, [25, 27, 29, 31, 0]), (1, 4, [26]), (0, 100, []), (1, 4, [28]), (0, 6, []), (1, 4, [30]), (0, 48, []), (1, 4, [32]), (0, 6, []), (1, 5, [34, 36, 38, 40, 0]), (1, 4, [35]), (0, 100, []), (1, 4, [37]), (0, 6, []), (1, 4, [39]), (0, 48, []), (1, 4, [41]), (0, 6, []), (1, 5, [43, 45, 47, 49, 0]), (1, 4, [44]), (0, 100, []), (1, 4, [46]), (0, 6, []), (1, 4, [48]), (0, 48, []), (1, 4, [50]), (0, 6, []), (1, 4, [52]), (0, 8, []), (1, 4, [54]), (0, 3, []), (1, 2, [4, 56, 58, 60, 62]), (1, 4, [57]), (0, 101, []), (1, 4, [59]), (0, 101, []), (1, 4, [61]), (0, 101, []), (1, 0, [63]), (0, 5454, []), (1, 3, [2, 2, 65, 67, 2, 2, 2, 2, 2, 2, 2, 0, 0, 0, 0, 0]), (1, 4, [66]), (0, 100, []), (1, 4, [68]), (0, 100, [])]
def WL104 : List Sh := [(1, 6, [4, 13, 51, 53, 55, 2, 0, 0]), (1, 5, [5, 7, 9, 11, 0]), (1, 4, [6]), (0, 100, []), (1, 4, [8]), (0, 6, []), (1, 4, [10]), (0, 48, []), (1, 4, [12]), (0, 6, []), (1, 1, [14, 0, 0]), (2, 4, [15, 24, 33, 42]), (1, 5, [16, 18, 20, 22, 0]), (1, 4, [17]), (0, 100, []), (1, 4, [19]), (0, 6, []), (1, 4, [21]), (0, 48, []), (1, 4, [23]), (0, 6, []), (1, 5, [25, 27, 29, 31, 0]), (1, 4, [26]), (0, 100, []), (1, 4, [28]), (0, 6, []), (1, 4, [30]), (0, 48, []), (1, 4, [32]), (0, 6, []), (1, 5, [34, 36, 38, 40, 0]), (1, 4, [35]), (0, 100, []), (1, 4, [37]), (0, 6, []), (1, 4, [39]), (0, 48, []), (1, 4, [41]), (0, 6, []), (1, 5, [43, 45, 47, 49, 0]), (1, 4, [44]), (0, 100, []), (1, 4, [46]), (0, 6, []), (1, 4, [48]), (0, 48, []), (1, 4, [50]), (0, 6, []), (1, 4, [52]), (0, 8, []), (1, 4, [54]), (0, 3, []), (1, 2, [4, 56, 58, 60, 62]), (1, 4, [57]), (0, 101, []), (1, 4, [59]), (0, 101, []), (1, 4, [61]), (0, 101, []), (1, 0, [63]), (0, 5454, []), (1, 3, [2, 2, 65, 67, 2, 2, 2, 2, 2, 2, 2, 0, 0, 0, 0, 0]), (1, 4, [66]), (0, 100, []), (1, 4, [68]), (0, 100, []), (1, 4, [2])]
def WL105 : List Sh := [(1, 6, [4, 13, 51, 53, 55, 2, 0, 0]), (1, 5, [5, 7, 9, 11, 0]), (1, 4, [6]), (0, 100, []), (1, 4, [8]), (0, 6, []), (1, 4, [10]), (0, 48, []), (1, 4, [12]), (0, 6, []), (1, 1, [14, 0, 0]), (2, 4, [15, 24, 33, 42]), (1, 5, [16, 18, 20, 22, 0]), (1, 4, [17]), (0, 100, []), (1, 4, [19]), (0, 6, []), (1, 4, [21]), (0, 48, []), (1, 4, [23]), (0, 6, []), (1, 5, [25, 27, 29, 31, 0]), (1, 4, [26]), (0, 100, []), (1, 4, [28]), (0, 6, []), (1, 4, [30]), (0, 48, []), (1, 4, [32]), (0, 6, []), (1, 5, [34, 36, 38, 40, 0]), (1, 4, [35]), (0, 100, []), (1, 4, [37]), (0, 6, []), (1, 4, [39]), (0, 48, []), (1, 4, [41]), (0, 6, []), (1, 5, [43, 45, 47, 49, 0]), (1, 4, [44]), (0, 100, []), (1, 4, [46]), (0, 6, []), (1, 4, [48]), (0, 48, []), (1, 4, [50]), (0, 6, []), (1, 4, [52]), (0, 8, []), (1, 4, [54]), (0, 3, []), (1, 2, [4, 56, 58, 60, 62]), (1, 4, [57]), (0, 101, []), (1, 4, [59]), (0, 101, []), (1, 4, [61]), (0, 101, []), (1, 0, [63]), (0, 5454, []), (1, 3, [2, 2, 65, 67, 2, 2, 2, 2, 2, 2, 2, 0, 0, 0, 0, 0]), (1, 4, [66]), (0, 100, []), (1, 4, [68]), (0, 100, []), (1, 4, [70]), (0, 100, [])]
def WL106 : List Sh := [(1, 6, [4, 13, 51, 53, 55, 2, 0, 0]), (1, 5, [5, 7, 9, 11, 0]), (1, 4, [6]), (0, 100, []), (1, 4, [8]), (0, 6, []), (1, 4, [10]), (0, 48, []), (1, 4, [12]), (0, 6, []), (1, 1, [14, 0, 0]), (2, 4, [15, 24, 33, 42]), (1, 5, [16, 18, 20, 22, 0]), (1, 4, [17]), (0, 100, []), (1, 4, [19]), (0, 6, []), (1, 4, [21]), (0, 48, []), (1, 4, [23]), (0, 6, []), (1, 5, [25, 27, 29, 31, 0]), (1, 4, [26]), (0, 100, []), (1, 4, [28]), (0, 6, []), (1, 4, [30]), (0, 48, []), (1, 4, [32]), (0, 6, []), (1, 5, [34, 36, 38, 40, 0]), (1, 4, [35]), (0, 100, []), (1, 4, [37]), (0, 6, []), (1, 4, [39]), (0, 48, []), (1, 4, [41]), (0, 6, []), (1, 5, [43, 45, 47, 49, 0]), (1, 4, [44]), (0, 100, []), (1, 4, [46]), (0, 6, []), (1, 4, [48]), (0, 48, []), (1, 4, [50]), (0, 6, []), (1, 4, [52]), (0, 8, []), (1, 4, [54]), (0, 3, []), (1, 2, [4, 56, 58, 60, 62]), (1, 4, [57]), (0, 101, []), (1, 4, [59]), (0, 101, []), (1, 4, [61]), (0, 101, []), (1, 0, [63]), (0, 5454, []), (1, 3, [2, 2, 65, 67, 69, 2, 2, 2, 2, 2, 2, 0, 0, 0, 0, 0]), (1, 4, [66]), (0, 100, []), (1, 4, [68]), (0, 100, []), (1, 4, [70]), (0, 100, [])]
def WL107 : List Sh := [(1, 6, [4, 13, 51, 53, 55, 2, 0, 0]), (1, 5, [5, 7, 9, 11, 0]), (1, 4, [6]), (0, 100, []), (1, 4, [8]), (0, 6, []), (1, 4, [10]), (0, 48, []), (1, 4, [12]), (0, 6, []), (1, 1, [14, 0, 0]), (2, 4, [15, 24, 33, 42]), (1, 5, [16, 18, 20, 22, 0]), (1, 4, [17]), (0, 100, []), (1, 4, [19]), (0, 6, []), (1, 4, [21]), (0, 48, []), (1, 4, [23]), (0, 6, []), (1, 5, [25, 27, 29, 31, 0]), (1, 4, [26]), (0, 100, []), (1, 4, [28]), (0, 6, []), (1, 4, [30]), (0, 48, []), (1, 4, [32]), (0, 6, []), (1, 5, [34, 36, 38, 40, 0]), (1, 4, [35]), (0, 100, []), (1, 4, [37]), (0, 6, []), (1, 4, [39]), (0, 48, []), (1, 4, [41]), (0, 6, []), (1, 5, [43, 45, 47, 49, 0]), (1, 4, [44]), (0, 100, []), (1, 4, [46]), (0, 6, []), (1, 4, [48]), (0, 48, []), (1, 4, [50]), (0, 6, []), (1, 4, [52]), (0, 8, []), (1, 4, [54]), (0, 3, []), (1, 2, [4, 56, 58, 60, 62]), (1, 4, [57]), (0, 101, []), (1, 4, [59]), (0, 101, []), (1, 4, [61]), (0, 101, []), (1, 0, [63]), (0, 5454, []), (1, 3, [2, 2, 65, 67, 69, 2, 2, 2, 2, 2, 2, 0, 0, 0, 0, 0]), (1, 4, [66]), (0, 100, []), (1, 4, [68]), (0, 100, []), (1, 4, [70]), (0, 100, []), (1, 4, [2])]
def WL108 : List Sh := [(1, 6, [4, 13, 51, 53, 55, 2, 0, 0]), (1, 5, [5, 7, 9, 11, 0]), (1, 4, [6]), (0, 100, []), (1, 4, [8]), (0, 6, []), (1, 4, [10]), (0, 48, []), (1, 4, [12]), (0, 6, []), (1, 1, [14, 0, 0]), (2, 4, [15, 24, 33, 42]), (1, 5, [16, 18, 20, 22, 0]), (1, 4, [17]), (0, 100, []), (1, 4, [19]), (0, 6, []), (1, 4, [21]), (0, 48, []), (1, 4, [23]), (0, 6, []), (1, 5, [25, 27, 29, 31, 0]), (1, 4, [26]), (0, 100, []), (1, 4, [28]), (0, 6, []), (1, 4, [30]), (0, 48, []), (1, 4, [32]), (0, 6, []), (1, 5, [34, 36, 38, 40, 0]), (1, 4, [35]), (0, 100, []), (1, 4, [37]), (0, 6, []), (1, 4, [39]), (0, 48, []), (1, 4, [41]), (0, 6, []), (1, 5, [43, 45, 47, 49, 0]), (1, 4, [44]), (0, 100, []), (1, 4, [46]), (0, 6, []), (1, 4, [48]), (0, 48, []), (1, 4, [50]), (0, 6, []), (1, 4, [52]), (0, 8, []), (1, 4, [54]), (0, 3, []), (1, 2, [4, 56, 58, 60, 62]), (1, 4, [57]), (0, 101, []), (1, 4, [59]), (0, 101, []), (1, 4, [61]), (0, 101, []), (1, 0, [63]), (0, 5454, []), (1, 3, [2, 2, 65, 67, 69, 2, 2, 2, 2, 2, 2, 0, 0, 0, 0, 0]), (1, 4, [66]), (0, 100, []), (1, 4, [68]), (0, 100, []), (1, 4, [70]), (0, 100, []), (1, 4, [72]), (0, 100, [])]
def WL109 : List Sh := [(1, 6, [4, 13, 51, 53, 55, 2, 0, 0]), (1, 5, [5, 7, 9, 11, 0]), (1, 4, [6]), (0, 100, []), (1, 4, [8]), (0, 6, []), (1, 4, [10]), (0, 48, []), (1, 4, [12]), (0, 6, []), (1, 1, [14, 0, 0]), (2, 4, [15, 24, 33, 42]), (1, 5, [16, 18, 20, 22, 0]), (1, 4, [17]), (0, 100, []), (1, 4, [19]), (0, 6, []), (1, 4, [21]), (0, 48, []), (1, 4, [23]), (0, 6, []), (1, 5, [25, 27, 29, 31, 0]), (1, 4, [26]), (0, 100, []), (1, 4, [28]), (0, 6, []), (1, 4, [30]), (0, 48, []), (1, 4, [32]), (0, 6, []), (1, 5, [34, 36, 38, 40, 0]), (1, 4, [35]), (0, 100, []), (1, 4, [37]), (0, 6, []), (1, 4, [39]), (0, 48, []), (1, 4, [41]), (0, 6, []), (1, 5, [43, 45, 47, 49, 0]), (1, 4, [44]), (0, 100, []), (1, 4, [46]), (0, 6, []), (1, 4, [48]), (0, 48, []), (1, 4, [50]), (0, 6, []), (1, 4, [52]), (0, 8, []), (1, 4, [54]), (0, 3, []), (1, 2, [4, 56, 58, 60, 62]), (1, 4, [57]), (0, 101, []), (1, 4, [59]), (0, 101, []), (1, 4, [61]), (0, 101, []), (1, 0, [63]), (0, 5454, []), (1, 3, [2, 2, 65, 67, 69, 71, 2, 2, 2, 2, 2, 0, 0, 0, 0, 0]), (1, 4, [66]), (0, 100, []), (1, 4, [68]), (0, 100, []), (1, 4, [70]), (0, 100, []), (1, 4, [72]), (0, 100, [])]
def WL110 : List Sh := [(1, 6, [4, 13, 51, 53, 55, 2, 0, 0]), (1, 5, [5, 7, 9, 11, 0]), (1, 4, [6]), (0, 100, []), (1, 4, [8]), (0, 6, []), (1, 4, [10]), (0, 48, []), (1, 4, [12]), (0, 6, []), (1, 1, [14, 0, 0]), (2, 4, [15, 24, 33, 42]), (1, 5, [16, 18, 20, 22, 0]), (1, 4, [17]), (0, 100, []), (1, 4, [19]), (0, 6, []), (1, 4, [21]), (0, 48, []), (1, 4, [23]), (0, 6, []), (1, 5, [25, 27, 29, 31, 0]), (1, 4, [26]), (0, 100, []), (1, 4, [28]), (0, 6, []), (1, 4, [30]), (0, 48, []), (1, 4, [32]), (0, 6, []), (1, 5, [34, 36, 38, 40, 0]), (1, 4, [35]), (0, 100, []), (1, 4, [37]), (0, 6, []), (1, 4, [39]), (0, 48, []), (1, 4, [41]), (0, 6, []), (1, 5, [43, 45, 47, 49, 0]), (1, 4, [44]), (0, 100, []), (1, 4, [46]), (0, 6, []), (1, 4, [48]), (0, 48, []), (1, 4, [50]), (0, 6, []), (1, 4, [52]), (0, 8, []), (1, 4, [54]), (0, 3, []), (1, 2, [4, 56, 58, 60, 62]), (1, 4, [57]), (0, 101, []), (1, 4, [59]), (0, 101, []), (1, 4, [61]), (0, 101, []), (1, 0, [63]), (0, 5454, []), (1, 3, [2, 2, 65, 67, 69, 71, 2, 2, 2, 2, 2, 0, 0, 0, 0, 0]), (1, 4, [66]), (0, 100, []), (1, 4, [68]), (0, 100, []), (1, 4, [70]), (0, 100, []), (1, 4, [72]), (0, 100, []), (1, 4, [2])]
def WL111 : List Sh := [(1, 6, [4, 13, 51, 53, 55, 2, 0, 0]), (1, 5, [5, 7, 9, 11, 0]), (1, 4, [6]), (0, 100, []), (1, 4, [8]), (0, 6, []), (1, 4, [10]), (0, 48, []), (1, 4, [12]), (0, 6, []), (1, 1, [14, 0, 0]), (2, 4, [15, 24, 33, 42]), (1, 5, [16, 18, 20, 22, 0]), (1, 4, [17]), (0, 100, []), (1, 4, [19]), (0, 6, []), (1, 4, [21]), (0, 48, []), (1, 4, [23]), (0, 6, []), (1, 5, [25, 27, 29, 31, 0]), (1, 4, [26]), (0, 100, []), (1, 4, [28]), (0, 6, []), (1, 4, [30]), (0, 48, []), (1, 4, [32]), (0, 6, []), (1, 5, [34, 36, 38, 40, 0]), (1, 4, [35]), (0, 100, []), (1, 4, [37]), (0, 6, []), (1, 4, [39]), (0, 48, []), (1, 4, [41]), (0, 6, []), (1, 5, [43, 45, 47, 49, 0]), (1, 4, [44]), (0, 100, []), (1, 4, [46]), (0, 6, []), (1, 4, [48]), (0, 48, []), (1, 4, [50]), (0, 6, []), (1, 4, [52]), (0, 8, []), (1, 4, [54]), (0, 3, []), (1, 2, [4, 56, 58, 60, 62]), (1, 4, [57]), (0, 101, []), (1, 4, [59]), (0, 101, []), (1, 4, [61]), (0, 101, []), (1, 0, [63]), (0, 5454, []), (1, 3, [2, 2, 65, 67, 69, 71, 2, 2, 2, 2, 2, 0, 0, 0, 0, 0]), (1, 4, [66]), (0, 100, []), (1, 4, [68]), (0, 100, []), (1, 4, [70]), (0, 100, []), (1, 4, [72]), (0, 100, []), (1, 4, [74]), (0, 100, [])]
def WL112 : List Sh := [(1, 6, [4, 13, 51, 53, 55, 2, 0, 0]), (1, 5, [5, 7, 9, 11, 0]), (1, 4, [6]), (0, 100, []), (1, 4, [8]), (0, 6, []), (1, 4, [10]), (0, 48, []), (1, 4, [12]), (0, 6, []), (1, 1, [14, 0, 0]), (2, 4, [15, 24, 33, 42]), (1, 5, [16, 18, 20, 22, 0]), (1, 4, [17]), (0, 100, []), (1, 4, [19]), (0, 6, []), (1, 4, [21]), (0, 48, []), (1, 4, [23]), (0, 6, []), (1, 5, [25, 27, 29, 31, 0]), (1, 4, [26]), (0, 100, []), (1, 4, [28]), (0, 6, []), (1, 4, [30]), (0, 48, []), (1, 4, [32]), (0, 6, []), (1, 5, [34, 36, 38, 40, 0]), (1, 4, [35]), (0, 100, []), (1, 4, [37]), (0, 6, []), (1, 4, [39]), (0, 48, []), (1, 4, [41]), (0, 6, []), (1, 5, [43, 45, 47, 49, 0]), (1, 4, [44]), (0, 100, []), (1, 4, [46]), (0, 6, []), (1, 4, [48]), (0, 48, []), (1, 4, [50]), (0, 6, []), (1, 4, [52]), (0, 8, []), (1, 4, [54]), (0, 3, []), (1, 2, [4, 56, 58, 60, 62]), (1, 4, [57]), (0, 101, []), (1, 4, [59]), (0, 101, []), (1, 4, [61]), (0, 101, []), (1, 0, [63]), (0, 5454, []), (1, 3, [2, 2, 65, 67, 69, 71, 73, 2, 2, 2, 2, 0, 0, 0, 0, 0]), (1, 4, [66]), (0, 100, []), (1, 4, [68]), (0, 100, []), (1, 4, [70]), (0, 100, []), (1, 4, [72]), (0, 100, []), (1, 4, [74]), (0, 100, [])]
def WL113 : List Sh := [(1, 6, [4, 13, 51, 53, 55, 2, 0, 0]), (1, 5, [5, 7, 9, 11, 0]), (1, 4, [6]), (0, 100, []), (1, 4, [8]), (0, 6, []), (1, 4, [10]), (0, 48, []), (1, 4, [12]), (0, 6, []), (1, 1, [14, 0, 0]), (2, 4, [15, 24, 33, 42]), (1, 5, [16, 18, 20, 22, 0]), (1, 4, [17]), (0, 100, []), (1, 4, [19]), (0, 6, []), (1, 4, [21]), (0, 48, []), (1, 4, [23]), (0, 6, []), (1, 5, [25, 27, 29, 31, 0]), (1, 4, [26]), (0, 100, []), (1, 4, [28]), (0, 6, []), (1, 4, [30]), (0, 48, []), (1, 4, [32]), (0, 6, []), (1, 5, [34, 36, 38, 40, 0]), (1, 4, [35]), (0, 100, []), (1, 4, [37]), (0, 6, []), (1, 4, [39]), (0, 48, []), (1, 4, [41]), (0, 6, []), (1, 5, [43, 45, 47, 49, 0]), (1, 4, [44]), (0, 100, []), (1, 4, [46]), (0, 6, []), (1, 4, [48]), (0, 48, []), (1, 4, [50]), (0, 6, []), (1, 4, [52]), (0, 8, []), (1, 4, [54]), (0, 3, []), (1, 2, [4, 56, 58, 60, 62]), (1, 4, [57]), (0, 101, []), (1, 4, [59]), (0, 101, []), (1, 4, [61]), (0, 101, []), (1, 0, [63]), (0, 5454, []), (1, 3, [2, 2, 65, 67, 69, 71, 73, 2, 2, 2, 2, 0, 0, 0, 0, 0]), (1, 4, [66]), (0, 100, []), (1, 4, [68]), (0, 100, []), (1, 4, [70]), (0, 100, []), (1, 4, [72]), (0, 100, []), (1, 4, [74]), (0, 100, []), (1, 4, [2])]
def WL114 : List Sh := [(1, 6, [4, 13, 51, 53, 55, 2, 0, 0]), (1, 5, [5, 7, 9, 11, 0]), (1, 4, [6]), (0, 100, []), (1, 4, [8]), (0, 6, []), (1, 4, [10]), (0, 48, []), (1, 4, [12]), (0, 6, []), (1, 1, [14, 0, 0]), (2, 4, [15, 24, 33, 42]), (1, 5, [16, 18, 20, 22, 0]), (1, 4, [17]), (0, 100, []), (1, 4, [19]), (0, 6, []), (1, 4, [21]), (0, 48, []), (1, 4, [23]), (0, 6, []), (1, 5, [25, 27, 29, 31, 0]), (1, 4, [26]), (0, 100, []), (1, 4, [28]), (0, 6, []), (1, 4, [30]), (0, 48, []), (1, 4, [32]), (0, 6, []), (1, 5, [34, 36, 38, 40, 0]), (1, 4, [35]), (0, 100, []), (1, 4, [37]), (0, 6, []), (1, 4, [39]), (0, 48, []), (1, 4, [41]), (0, 6, []), (1, 5, [43, 45, 47, 49, 0]), (1, 4, [44]), (0, 100, []), (1, 4, [46]), (0, 6, []), (1, 4, [48]), (0, 48, []), (1, 4, [50]), (0, 6, []), (1, 4, [52]), (0, 8, []), (1, 4, [54]), (0, 3, []), (1, 2, [4, 56, 58, 60, 62]), (1, 4, [57]), (0, 101, []), (1, 4, [59]), (0, 101, []), (1, 4, [61]), (0, 101, []), (1, 0, [63]), (0, 5454, []), (1, 3, [2, 2, 65, 67, 69, 71, 73, 2, 2, 2, 2, 0, 0, 0, 0, 0]), (1, 4, [66]), (0, 100, []), (1, 4, [68]), (0, 100, []), (1, 4, [70]), (0, 100, []), (1, 4, [72]), (0, 100, []), (1, 4, [74]), (0, 100, []), (1, 4, [76]), (0, 100, [])]
def WL115 : List Sh := [(1, 6, [4, 13, 51, 53, 55, 2, 0, 0]), (1, 5, [5, 7, 9, 11, 0]), (1, 4, [6]), (0, 100, []), (1, 4, [8]), (0, 6, []), (1, 4, [10]), (0, 48, []), (1, 4, [12]), (0, 6, []), (1, 1, [14, 0, 0]), (2, 4, [15, 24, 33, 42]), (1, 5, [16, 18, 20, 22, 0]), (1, 4, [17]), (0, 100, []), (1, 4, [19]), (0, 6, []), (1, 4, [21]), (0, 48, []), (1, 4, [23]), (0, 6, []), (1, 5, [25, 27, 29, 31, 0]), (1, 4, [26]), (0, 100, []), (1, 4, [28]), (0, 6, []), (1, 4, [30]), (0, 48, []), (1, 4, [32]), (0, 6, []), (1, 5, [34, 36, 38, 40, 0]), (1, 4, [35]), (0, 100, []), (1, 4, [37]), (0, 6, []), (1, 4, [39]), (0, 48, []), (1, 4, [41]), (0, 6, []), (1, 5, [43, 45, 47, 49, 0]), (1, 4, [44]), (0, 100, []), (1, 4, [46]), (0, 6, []), (1, 4, [48]), (0, 48, []), (1, 4, [50]), (0, 6, []), (1, 4, [52]), (0, 8, []), (1, 4, [54]), (0, 3, []), (1, 2, [4, 56, 58, 60, 62]), (1, 4, [57]), (0, 101, []), (1, 4, [59]), (0, 101, []), (1, 4, [61]), (0, 101, []), (1, 0, [63]), (0, 5454, []), (1, 3, [2, 2, 65, 67, 69, 71, 73, 75, 2, 2, 2, 0, 0, 0, 0, 0]), (1, 4, [66]), (0, 100, []), (1, 4, [68]), (0, 100, []), (1, 4, [70]), (0, 100, []), (1, 4, [72]), (0, 100, []), (1, 4, [74]), (0, 100, []), (1, 4, [76]), (0, 100, [])]
def WL116 : List Sh := [(1, 6, [4, 13, 51, 53, 55, 2, 0, 0]), (1, 5, [5, 7, 9, 11, 0]), (1, 4, [6]), (0, 100, []), (1, 4, [8]), (0, 6, []), (1, 4, [10]), (0, 48, []), (1, 4, [12]), (0, 6, []), (1, 1, [14, 0, 0]), (2, 4, [15, 24, 33, 42]), (1, 5, [16, 18, 20, 22, 0]), (1, 4, [17]), (0, 100, []), (1, 4, [19]), (0, 6, []), (1, 4, [21]), (0, 48, []), (1, 4, [23]), (0, 6, []), (1, 5, [25, 27, 29, 31, 0]), (1, 4, [26]), (0, 100, []), (1, 4, [28]), (0, 6, []), (1, 4, [30]), (0, 48, []), (1, 4, [32]), (0, 6, []), (1, 5, [34, 36, 38, 40, 0]), (1, 4, [35]), (0, 100, []), (1, 4, [37]), (0, 6, []), (1, 4, [39]), (0, 48, []), (1, 4, [41]), (0, 6, []), (1, 5, [43, 45, 47, 49, 0]), (1, 4, [44]), (0, 100, []), (1, 4, [46]), (0, 6, []), (1, 4, [48]), (0, 48, []), (1, 4, [50]), (0, 6, []), (1, 4, [52]), (0, 8, []), (1, 4, [54]), (0, 3, []), (1, 2, [4, 56, 58, 60, 62]), (1, 4, [57]), (0, 101, []), (1, 4, [59]), (0, 101, []), (1, 4, [61]), (0, 101, []), (1, 0, [63]), (0, 5454, []), (1, 3, [2, 2, 65, 67, 69, 71, 73, 75, 2, 2, 2, 0, 0, 0, 0, 0]), (1, 4, [66]), (0, 100, []), (1, 4, [68]), (0, 100, []), (1, 4, [70]), (0, 100, []), (1, 4, [72]), (0, 100, []), (1, 4, [74]), (0, 100, []), (1, 4, [76]), (0, 100, []), (1, 4, [2])]
def WL117 : List Sh := [(1, 6, [4, 13, 51, 53, 55, 2, 0, 0]), (1, 5, [5, 7, 9, 11, 0]), (1, 4, [6]), (0, 100, []), (1, 4, [8]), (0, 6, []), (1, 4, [10]), (0, 48, []), (1, 4, [12]), (0, 6, []), (1, 1, [14, 0, 0]), (2, 4, [15, 24, 33, 42]), (1, 5, [16, 18, 20, 22, 0]), (1, 4, [17]), (0, 100, []), (1, 4, [19]), (0, 6, []), (1, 4, [21]), (0, 48, []), (1, 4, [23]), (0, 6, []), (1, 5, [25, 27, 29, 31, 0]), (1, 4, [26]), (0, 100, []), (1, 4, [28]), (0, 6, []), (1, 4, [30]), (0, 48, []), (1, 4, [32]), (0, 6, []), (1, 5, [34, 36, 38, 40, 0]), (1, 4, [35]), (0, 100, []), (1, 4, [37]), (0, 6, []), (1, 4, [39]), (0, 48, []), (1, 4, [41]), (0, 6, []), (1, 5, [43, 45, 47, 49, 0]), (1, 4, [44]), (0, 100, []), (1, 4, [46]), (0, 6, []), (1, 4, [48]), (0, 48, []), (1, 4, [50]), (0, 6, []), (1, 4, [52]), (0, 8, []), (1, 4, [54]), (0, 3, []), (1, 2, [4, 56, 58, 60, 62]), (1, 4, [57]), (0, 101, []), (1, 4, [59]), (0, 101, []), (1, 4, [61]), (0, 101, []), (1, 0, [63]), (0, 5454, []), (1, 3, [2, 2, 65, 67, 69, 71, 73, 75, 2, 2, 2, 0, 0, 0, 0, 0]), (1, 4, [66]), (0, 100, []), (1, 4, [68]), (0, 100, []), (1, 4, [70]), (0, 100, []), (1, 4, [72]), (0, 100, []), (1, 4, [74]), (0, 100, []), (1, 4, [76]), (0, 100, []), (1, 4, [78]), (0, 100, [])]
def WL118 : List Sh := [(1, 6, [4, 13, 51, 53, 55, 2, 0, 0]), (1, 5, [5, 7, 9, 11, 0]), (1, 4, [6]), (0, 100, []), (1, 4, [8]), (0, 6, []), (1, 4, [10]), (0, 48, []), (1, 4, [12]), (0, 6, []), (1, 1, [14, 0, 0]), (2, 4, [15, 24, 33, 42]), (1, 5, [16, 18, 20, 22, 0]), (1, 4, [17]), (0, 100, []), (1, 4, [19]), (0, 6, []), (1, 4, [21]), (0, 48, []), (1, 4, [23]), (0, 6, []), (1, 5, [25, 27, 29, 31, 0]), (1, 4, [26]), (0, 100, []), (1, 4, [28]), (0, 6, []), (1, 4, [30]), (0, 48, []), (1, 4, [32]), (0, 6, []), (1, 5, [34, 36, 38, 40, 0]), (1, 4, [35]), (0, 100, []), (1, 4, [37]), (0, 6, []), (1, 4, [39]), (0, 48, []), (1, 4, [41]), (0, 6, []), (1, 5, [43, 45, 47, 49, 0]), (1, 4, [44]), (0, 100, []), (1, 4, [46]), (0, 6, []), (1, 4, [48]), (0, 48, []), (1, 4, [50]), (0, 6, []), (1, 4, [52]), (0, 8, []), (1, 4, [54]), (0, 3, []), (1, 2, [4, 56, 58, 60, 62]), (1, 4, [57]), (0, 101, []), (1, 4, [59]), (0, 101, []), (1, 4, [61]), (0, 101, []), (1, 0, [63]), (0, 5454, []), (1, 3, [2, 2, 65, 67, 69, 71, 73, 75, 77, 2, 2, 0, 0, 0, 0, 0]), (1, 4, [66]), (0, 100, []), (1, 4, [68]), (0, 100, []), (1, 4, [70]), (0, 100, []), (1, 4, [72]), (0, 100, []), (1, 4, [74]), (0, 100, []), (1, 4, [76]), (0, 100, []), (1, 4, [78]), (0, 100, [])]
def WL119 : List Sh := [(1, 6, [4, 13, 51, 53, 55, 2, 0, 0]), (1, 5, [5, 7, 9, 11, 0]), (1, 4, [6]), (0, 100, []), (1, 4, [8]), (0, 6, []), (1, 4, [10]), (0, 48, []), (1, 4, [12]), (0, 6, []), (1, 1, [14, 0, 0]), (2, 4, [15, 24, 33, 42]), (1, 5, [16, 18, 20, 22, 0]), (1, 4, [17]), (0, 100, []), (1, 4, [19]), (0, 6, []), (1, 4, [21]), (0, 48, []), (1, 4, [23]), (0, 6, []), (1, 5, [25, 27, 29, 31, 0]), (1, 4, [26]), (0, 100, []), (1, 4, [28]), (0, 6, []), (1, 4, [30]), (0, 48, []), (1, 4, [32]), (0, 6, []), (1, 5, [34, 36, 38, 40, 0]), (1, 4, [35]), (0, 100, []), (1, 4, [37]), (0, 6, []), (1, 4, [39]), (0, 48, []), (1, 4, [41]), (0, 6, []), (1, 5, [43, 45, 47, 49, 0]), (1, 4, [44]), (0, 100, []), (1, 4, [46]), (0, 6, []), (1, 4, [48]), (0, 48, []), (1, 4, [50]), (0, 6, []), (1, 4, [52]), (0, 8, []), (1, 4, [54]), (0, 3, []), (1, 2, [4, 56, 58, 60, 62]), (1, 4, [57]), (0, 101, []), (1, 4, [59]), (0, 101, []), (1, 4, [61]), (0, 101, []), (1, 0, [63]), (0, 5454, []), (1, 3, [2, 2, 65, 67, 69, 71, 73, 75, 77, 2, 2, 0, 0, 0, 0, 0]), (1, 4, [66]), (0, 100, []), (1, 4, [68]), (0, 100, []), (1, 4, [70]), (0, 100, []), (1, 4, [72]), (0, 100, []), (1, 4, [74]), (0, 100, []), (1, 4, [76]), (0, 100, []), (1, 4, [78]), (0, 100, []), (1, 4, [2])]
def WL120 : List Sh := [(1, 6, [4, 13, 51, 53, 55, 2, 0, 0]), (1, 5, [5, 7, 9, 11, 0]), (1, 4, [6]), (0, 100, []), (1, 4, [8]), (0, 6, []), (1, 4, [10]), (0, 48, []), (1, 4, [12]), (0, 6, []), (1, 1, [14, 0, 0]), (2, 4, [15, 24, 33, 42]), (1, 5, [16, 18, 20, 22, 0]), (1, 4, [17]), (0, 100, []), (1, 4, [19]), (0, 6, []), (1, 4, [21]), (0, 48, []), (1, 4, [23]), (0, 6, []), (1, 5, [25, 27, 29, 31, 0]), (1, 4, [26]), (0, 100, []), (1, 4, [28]), (0, 6, []), (1, 4, [30]), (0, 48, []), (1, 4, [32]), (0, 6, []), (1, 5, [34, 36, 38, 40, 0]), (1, 4, [35]), (0, 100, []), (1, 4, [37]), (0, 6, []), (1, 4, [39]), (0, 48, []), (1, 4, [41]), (0, 6, []), (1, 5, [43, 45, 47, 49, 0]), (1, 4, [44]), (0, 100, []), (1, 4, [46]), (0, 6, []), (1, 4, [48]), (0, 48, []), (1, 4, [50]), (0, 6, []), (1, 4, [52]), (0, 8, []), (1, 4, [54]), (0, 3, []), (1, 2, [4, 56, 58, 60, 62]), (1, 4, [57]), (0, 101, []), (1, 4, [59]), (0, 101, []), (1, 4, [61]), (0, 101, []), (1, 0, [63]), (0, 5454, []), (1, 3, [2, 2, 65, 67, 69, 71, 73, 75, 77, 2, 2, 0, 0, 0, 0, 0]), (1, 4, [66]), (0, 100, []), (1, 4, [68]), (0, 100, []), (1, 4, [70]), (0, 100, []), (1, 4, [72]), (0, 100, []), (1, 4, [74]), (0, 100, []), (1, 4, [76]), (0, 100, []), (1, 4, [78]), (0, 100, []), (1, 4, [80]), (0, 100, [])]
def WL121 : List Sh := [(1, 6, [4, 13, 51, 53, 55, 2, 0, 0]), (1, 5, [5, 7, 9, 11, 0]), (1, 4, [6]), (0, 100, []), (1, 4, [8]), (0, 6, []), (1, 4, [10]), (0, 48, []), (1, 4, [12]), (0, 6, []), (1, 1, [14, 0, 0]), (2, 4, [15, 24, 33, 42]), (1, 5, [16, 18, 20, 22, 0]), (1, 4, [17]), (0, 100, []), (1, 4, [19]), (0, 6, []), (1, 4, [21]), (0, 48, []), (1, 4, [23]), (0, 6, []), (1, 5, [25, 27, 29, 31, 0]), (1, 4, [26]), (0, 100, []), (1, 4, [28]), (0, 6, []), (1, 4, [30]), (0, 48, []), (1, 4, [32]), (0, 6, []), (1, 5, [34, 36, 38, 40, 0]), (1, 4, [35]), (0, 100, []), (1, 4, [37]), (0, 6, []), (1, 4, [39]), (0, 48, []), (1, 4, [41]), (0, 6, []), (1, 5, [43, 45, 47, 49, 0]), (1, 4, [44]), (0, 100, []), (1, 4, [46]), (0, 6, []), (1, 4, [48]), (0, 48, []), (1, 4, [50]), (0, 6, []), (1, 4, [52]), (0, 8, []), (1, 4, [54]), (0, 3, []), (1, 2, [4, 56, 58, 60, 62]), (1, 4, [57]), (0, 101, []), (1, 4, [59]), (0, 101, []), (1, 4, [61]), (0, 101, []), (1, 0, [63]), (0, 5454, []), (1, 3, [2, 2, 65, 67, 69, 71, 73, 75, 77, 79, 2, 0, 0, 0, 0, 0]), (1, 4, [66]), (0, 100, []), (1, 4, [68]), (0, 100, []), (1, 4, [70]), (0, 100, []), (1, 4, [72]), (0, 100, []), (1, 4, [74]), (0, 100, []), (1, 4, [76]), (0, 100, []), (1, 4, [78]), (0, 100, []), (1, 4, [80]), (0, 100, [])]
def WL122 : List Sh := [(1, 6, [4, 13, 51, 53, 55, 2, 0, 0]), (1, 5, [5, 7, 9, 11, 0]), (1, 4, [6]), (0, 100, []), (1, 4, [8]), (0, 6, []), (1, 4, [10]), (0, 48, []), (1, 4, [12]), (0, 6, []), (1, 1, [14, 0, 0]), (2, 4, [15, 24, 33, 42]), (1, 5, [16, 18, 20, 22, 0]), (1, 4, [17]), (0, 100, []), (1, 4, [19]), (0, 6, []), (1, 4, [21]), (0, 48, []), (1, 4, [23]), (0, 6, []), (1, 5, [25, 27, 29, 31, 0]), (1, 4, [26]), (0, 100, []), (1, 4, [28]), (0, 6, []), (1, 4, [30]), (0, 48, []), (1, 4, [32]), (0, 6, []), (1, 5, [34, 36, 38, 40, 0]), (1, 4, [35]), (0, 100, []), (1, 4, [37]), (0, 6, []), (1, 4, [39]), (0, 48, []), (1, 4, [41]), (0, 6, []), (1, 5, [43, 45, 47, 49, 0]), (1, 4, [44]), (0, 100, []), (1, 4, [46]), (0, 6, []), (1, 4, [48]), (0, 48, []), (1, 4, [50]), (0, 6, []), (1, 4, [52]), (0, 8, []), (1, 4, [54]), (0, 3, []), (1, 2, [4, 56, 58, 60, 62]), (1, 4, [57]), (0, 101, []), (1, 4, [59]), (0, 101, []), (1, 4, [61]), (0, 101, []), (1, 0, [63]), (0, 5454, []), (1, 3, [2, 2, 65, 67, 69, 71, 73, 75, 77, 79, 2, 0, 0, 0, 0, 0]), (1, 4, [66]), (0, 100, []), (1, 4, [68]), (0, 100, []), (1, 4, [70]), (0, 100, []), (1, 4, [72]), (0, 100, []), (1, 4, [74]), (0, 100, []), (1, 4, [76]), (0, 100, []), (1, 4, [78]), (0, 100, []), (1, 4, [80]), (0, 100, []), (1, 4, [2])]
def WL123 : List Sh := [(1, 6, [4, 13, 51, 53, 55, 2, 0, 0]), (1, 5, [5, 7, 9, 11, 0]), (1, 4, [6]), (0, 100, []), (1, 4, [8]), (0, 6, []), (1, 4, [10]), (0, 48, []), (1, 4, [12]), (0, 6, []), (1, 1, [14, 0, 0]), (2, 4, [15, 24, 33, 42]), (1, 5, [16, 18, 20, 22, 0]), (1, 4, [17]), (0, 100, []), (1, 4, [19]), (0, 6, []), (1, 4, [21]), (0, 48, []), (1, 4, [23]), (0, 6, []), (1, 5, [25, 27, 29, 31, 0]), (1, 4, [26]), (0, 100, []), (1, 4, [28]), (0, 6, []), (1, 4, [30]), (0, 48, []), (1, 4, [32]), (0, 6, []), (1, 5, [34, 36, 38, 40, 0]), (1, 4, [35]), (0, 100, []), (1, 4, [37]), (0, 6, []), (1, 4, [39]), (0, 48, []), (1, 4, [41]), (0, 6, []), (1, 5, [43, 45, 47, 49, 0]), (1, 4, [44]), (0, 100, []), (1, 4, [46]), (0, 6, []), (1, 4, [48]), (0, 48, []), (1, 4, [50]), (0, 6, []), (1, 4, [52]), (0, 8, []), (1, 4, [54]), (0, 3, []), (1, 2, [4, 56, 58, 60, 62]), (1, 4, [57]), (0, 101, []), (1, 4, [59]), (0, 101, []), (1, 4, [61]), (0, 101, []), (1, 0, [63]), (0, 5454, []), (1, 3, [2, 2, 65, 67, 69, 71, 73, 75, 77, 79, 2, 0, 0, 0, 0, 0]), (1, 4, [66]), (0, 100, []), (1, 4, [68]), (0, 100, []), (1, 4, [70]), (0, 100, []), (1, 4, [72]), (0, 100, []), (1, 4, [74]), (0, 100, []), (1, 4, [76]), (0, 100, []), (1, 4, [78]), (0, 100, []), (1, 4, [80]), (0, 100, []), (1, 4, [82]), (0, 100, [])]
def WL124 : List Sh := [(1, 6, [4, 13, 51, 53, 55, 2, 0, 0]), (1, 5, [5, 7, 9, 11, 0]), (1, 4, [6]), (0, 100, []), (1, 4, [8]), (0, 6, []), (1, 4, [10]), (0, 48, []), (1, 4, [12]), (0, 6, []), (1, 1, [14, 0, 0]), (2, 4, [15, 24, 33, 42]), (1, 5, [16, 18, 20, 22, 0]), (1, 4, [17]), (0, 100, []), (1, 4, [19]), (0, 6, []), (1, 4, [21]), (0, 48, []), (1, 4, [23]), (0, 6, []), (1, 5, [25, 27, 29, 31, 0]), (1, 4, [26]), (0, 100, []), (1, 4, [28]), (0, 6, []), (1, 4, [30]), (0, 48, []), (1, 4, [32]), (0, 6, []), (1, 5, [34, 36, 38, 40, 0]), (1, 4, [35]), (0, 100, []), (1, 4, [37]), (0, 6, []), (1, 4, [39]), (0, 48, []), (1, 4, [41]), (0, 6, []), (1, 5, [43, 45, 47, 49, 0]), (1, 4, [44]), (0, 100, []), (1, 4, [46]), (0, 6, []), (1, 4, [48]), (0, 48, []), (1, 4, [50]), (0, 6, []), (1, 4, [52]), (0, 8, []), (1, 4, [54]), (0, 3, []), (1, 2, [4, 56, 58, 60, 62]), (1, 4, [57]), (0, 101, []), (1, 4, [59]), (0, 101, []), (1, 4, [61]), (0, 101, []), (1, 0, [63]), (0, 5454, []), (1, 3, [2, 2, 65, 67, 69, 71, 73, 75, 77, 79, 81, 0, 0, 0, 0, 0]), (1, 4, [66]), (0, 100, []), (1, 4, [68]), (0, 100, []), (1, 4, [70]), (0, 100, []), (1, 4, [72]), (0, 100, []), (1, 4, [74]), (0, 100, []), (1, 4, [76]), (0, 100, []), (1, 4, [78]), (0, 100, []), (1, 4, [80]), (0, 100, []), (1, 4, [82]), (0, 100, [])]
def WL125 : List Sh := [(1, 6, [4, 13, 51, 53, 55, 2, 0, 0]), (1, 5, [5, 7, 9, 11, 0]), (1, 4, [6]), (0, 100, []), (1, 4, [8]), (0, 6, []), (1, 4, [10]), (0, 48, []), (1, 4, [12]), (0, 6, []), (1, 1, [14, 0, 0]), (2, 4, [15, 24, 33, 42]), (1, 5, [16, 18, 20, 22, 0]), (1, 4, [17]), (0, 100, []), (1, 4, [19]), (0, 6, []), (1, 4, [21]), (0, 48, []), (1, 4, [23]), (0, 6, []), (1, 5, [25, 27, 29, 31, 0]), (1, 4, [26]), (0, 100, []), (1, 4, [28]), (0, 6, []), (1, 4, [30]), (0, 48, []), (1, 4, [32]), (0, 6, []), (1, 5, [34, 36, 38, 40, 0]), (1, 4, [35]), (0, 100, []), (1, 4, [37]), (0, 6, []), (1, 4, [39]), (0, 48, []), (1, 4, [41]), (0, 6, []), (1, 5, [43, 45, 47, 49, 0]), (1, 4, [44]), (0, 100, []), (1, 4, [46]), (0, 6, []), (1, 4, [48]), (0, 48, []), (1, 4, [50]), (0, 6, []), (1, 4, [52]), (0, 8, []), (1, 4, [54]), (0, 3, []), (1, 2, [4, 56, 58, 60, 62]), (1, 4, [57]), (0, 101, []), (1, 4, [59]), (0, 101, []), (1, 4, [61]), (0, 101, []), (1, 0, [63]), (0, 5454, []), (1, 3, [4, 2, 65, 67, 69, 71, 73, 75, 77, 79, 81, 0, 0, 0, 0, 0]), (1, 4, [66]), (0, 100, []), (1, 4, [68]), (0, 100, []), (1, 4, [70]), (0, 100, []), (1, 4, [72]), (0, 100, []), (1, 4, [74]), (0, 100, []), (1, 4, [76]), (0, 100, []), (1, 4, [78]), (0, 100, []), (1, 4, [80]), (0, 100, []), (1, 4, [82]), (0, 100, [])]
def WL126 : List Sh := [(1, 6, [4, 13, 51, 53, 55, 2, 0, 0]), (1, 5, [5, 7, 9, 11, 0]), (1, 4, [6]), (0, 100, []), (1, 4, [8]), (0, 6, []), (1, 4, [10]), (0, 48, []), (1, 4, [12]), (0, 6, []), (1, 1, [14, 0, 0]), (2, 4, [15, 24, 33, 42]), (1, 5, [16, 18, 20, 22, 0]), (1, 4, [17]), (0, 100, []), (1, 4, [19]), (0, 6, []), (1, 4, [21]), (0, 48, []), (1, 4, [23]), (0, 6, []), (1, 5, [25, 27, 29, 31, 0]), (1, 4, [26]), (0, 100, []), (1, 4, [28]), (0, 6, []), (1, 4, [30]), (0, 48, []), (1, 4, [32]), (0, 6, []), (1, 5, [34, 36, 38, 40, 0]), (1, 4, [35]), (0, 100, []), (1, 4, [37]), (0, 6, []), (1, 4, [39]), (0, 48, []), (1, 4, [41]), (0, 6, []), (1, 5, [43, 45, 47, 49, 0]), (1, 4, [44]), (0, 100, []), (1, 4, [46]), (0, 6, []), (1, 4, [48]), (0, 48, []), (1, 4, [50]), (0, 6, []), (1, 4, [52]), (0, 8, []), (1, 4, [54]), (0, 3, []), (1, 2, [4, 56, 58, 60, 62]), (1, 4, [57]), (0, 101, []), (1, 4, [59]), (0, 101, []), (1, 4, [61]), (0, 101, []), (1, 0, [63]), (0, 5454, []), (1, 3, [4, 55, 65, 67, 69, 71, 73, 75, 77, 79, 81, 0, 0, 0, 0, 0]), (1, 4, [66]), (0, 100, []), (1, 4, [68]), (0, 100, []), (1, 4, [70]), (0, 100, []), (1, 4, [72]), (0, 100, []), (1, 4, [74]), (0, 100, []), (1, 4, [76]), (0, 100, []), (1, 4, [78]), (0, 100, []), (1, 4, [80]), (0, 100, []), (1, 4, [82]), (0, 100, [])]
def sg_Nodes_61 (σ : St) : St := (up (up (up (up (up (ur (ur (ur (ur (ur (ur (ur (ur (ur (ur (ur (ur (ur (ur (ur (ur (ur (ur σ 62 (fun _ => 0)) 63 (fun _ => 0)) 64 (fun _ => 0)) 65 (fun _ => 0)) 66 (fun _ => 0)) 67 (fun _ => 0)) 68 (fun _ => 0)) 69 (fun _ => 0)) 70 (fun _ => 0)) 71 (fun _ => 0)) 72 (fun _ => 0)) 73 (fun _ => 0)) 74 (fun _ => 0)) 75 (fun _ => 0)) 76 (fun _ => 0)) 77 (fun _ => 0)) 78 (fun _ => 0)) 79 (fun _ => 0)) 61 11 0) 61 12 0) 61 13 0) 61 14 0) 61 15 0)
abbrev rc_Nodes_61 : Room := ({ frames := 2, cells := 18, slots := 909, locals := 33 } : Room)
set_option maxHeartbeats 4000000 in
set_option maxRecDepth 100000 in
theorem cc_Nodes_61 (l : Launch) (w : GW) (g0 : Nat → Nat) (σ : St) (sz : Nat) (x61 : Nat) (a61 : g0 61 = x61) (x1 : Nat) (a1 : g0 1 = x1) (x52 : Nat) (a52 : g0 52 = x52) : Met l yX3_init (Cond.code yX3_init cX3_init 3 none :: wsL_law) rc_Nodes_61 (gPcC (gw w g0) WL97 σ sz [.ref x61, .ref x1, .ref x52]) (gQc w g0 WL97.length sz WL126 (sg_Nodes_61 σ)) 18 909 (gA (gw w g0) WL97.length sz) := by
  refine g_metC (by decide) [.ref x61, .ref x1, .ref x52] (Nat.le_of_ble_eq_true rfl) ?_
  intro p e s m below meth c ls hz C0 hin hao hl G
  obtain ⟨hx, hb, hr, hml, hown, hts, hlk, hNw, hA⟩ := id C0
  have hown : s.vm.findClass RX3 = some m.cls := hown
  have hl : lv_has ls 3 [(0, .ref x61), (1, .ref x1), (2, .ref x52)] := hl
  have E : ∀ k, k < 62 → g0 k = g0 k := fun _ _ => rfl
  refine lv_aload_n hx hb dX3_init_0 rfl (lv_at hl 0 rfl) ?_
  refine g_objI hx hb hml hts hown wm_85 wm_10 wm_11 hl.1 (Nat.le_of_ble_eq_true rfl) (Nat.le_of_ble_eq_true rfl) dX3_init_1 ?_
  refine lv_aload_n hx hb dX3_init_4 rfl (lv_at hl 0 rfl) ?_
  refine g_newO (n := 62) (ci := 4) (C := RX4) (T := TX4) (N := 1) hx hb hts hown [2] inlX4 tyX4 tyX4_ok G hA rfl (by decide +kernel) rfl (fun j hj => by rcases (show j = 0 by omega) with rfl <;> rfl) (by decide) wm_86 wm_21 wm_22 (Nat.le_of_ble_eq_true rfl) (Nat.le_of_ble_eq_true rfl) dX3_init_5 (show _ = WL98 from rfl) (fun g x62 H a62 hg G => ?_)
  have a61 := (hg 61 (Nat.le_of_ble_eq_true rfl)).trans a61
  have a1 := (hg 1 (Nat.le_of_ble_eq_true rfl)).trans a1
  have a52 := (hg 52 (Nat.le_of_ble_eq_true rfl)).trans a52
  have E : ∀ k, k < 62 → g k = g0 k := fun k hk => (hg k (Nat.lt_of_lt_of_le hk (Nat.le_of_ble_eq_true rfl))).trans (E k hk)
  refine W.widen (k := 1) (n := 1) (Nat.le_of_ble_eq_true rfl) (Nat.le_of_ble_eq_true rfl) ?_
  refine lv_dup hx hb dX3_init_8 rfl ?_
  refine lv_bipush (v := iz 100) hx hb dX3_init_9 (by decide +kernel) ?_
  refine g_callC (n := 1) (rest := [.ref x62, .ref x61]) (n0 := 63) hx hb hml hts hown hNw hao hA G [.int (iz 100)] (c4_init l w _ _ _ 62 100 63 x62 a62 rfl (by decide +kernel) rfl (by decide) (i := 100) rfl (show _ = WL99 from rfl)) rfl wm_103 wm_46 wm_22 wm_47 rfl ⟨by decide +kernel, by decide +kernel, by decide +kernel⟩ ⟨rfl, rfl, (Nat.le_of_ble_eq_true rfl), (Nat.le_of_ble_eq_true rfl)⟩ rfl hl.1 (Nat.le_of_ble_eq_true rfl) rfl dX3_init_11 ⟨(Nat.le_of_ble_eq_true rfl), (Nat.le_of_ble_eq_true rfl)⟩ (fun g H locs hg G => ?_)
  have a61 := (hg 61 (Nat.le_of_ble_eq_true rfl)).trans a61
  have a1 := (hg 1 (Nat.le_of_ble_eq_true rfl)).trans a1
  have a52 := (hg 52 (Nat.le_of_ble_eq_true rfl)).trans a52
  have a62 := (hg 62 (Nat.le_of_ble_eq_true rfl)).trans a62
  have E : ∀ k, k < 62 → g k = g0 k := fun k hk => (hg k (Nat.lt_of_lt_of_le hk (Nat.le_of_ble_eq_true rfl))).trans (E k hk)
  refine W.widen (k := 2) (n := 101) (Nat.le_of_ble_eq_true rfl) (Nat.le_of_ble_eq_true rfl) ?_
  refine g_putF (k := 61) (ci := 3) (cs := [2, 2, 2, 2, 2, 2, 2, 2, 2, 2, 2, 0, 0, 0, 0, 0]) hx hb hts hown 2 62 inlX3 tyX3 tyX3_ok nmX3 G rfl rfl (by decide) (by decide) wm_87 rfl hin rfl rfl rfl dX3_init_14 a61 a62 (show _ = WL100 from rfl) (fun H locs G => ?_)
  refine lv_aload_n hx hb dX3_init_17 rfl (lv_at hl 0 rfl) ?_
  refine g_newO (n := 64) (ci := 4) (C := RX4) (T := TX4) (N := 1) hx hb hts hown [2] inlX4 tyX4 tyX4_ok G hA rfl (by decide +kernel) rfl (fun j hj => by rcases (show j = 0 by omega) with rfl <;> rfl) (by decide) wm_86 wm_21 wm_22 (Nat.le_of_ble_eq_true rfl) (Nat.le_of_ble_eq_true rfl) dX3_init_18 (show _ = WL101 from rfl) (fun g x64 H a64 hg G => ?_)
  have a61 := (hg 61 (Nat.le_of_ble_eq_true rfl)).trans a61
  have a1 := (hg 1 (Nat.le_of_ble_eq_true rfl)).trans a1
  have a52 := (hg 52 (Nat.le_of_ble_eq_true rfl)).trans a52
  have a62 := (hg 62 (Nat.le_of_ble_eq_true rfl)).trans a62
  have E : ∀ k, k < 62 → g k = g0 k := fun k hk => (hg k (Nat.lt_of_lt_of_le hk (Nat.le_of_ble_eq_true rfl))).trans (E k hk)
  refine W.widen (k := 3) (n := 102) (Nat.le_of_ble_eq_true rfl) (Nat.le_of_ble_eq_true rfl) ?_
  refine lv_dup hx hb dX3_init_21 rfl ?_
  refine lv_bipush (v := iz 100) hx hb dX3_init_22 (by decide +kernel) ?_
  refine g_callC (n := 1) (rest := [.ref x64, .ref x61]) (n0 := 65) hx hb hml hts hown hNw hao hA G [.int (iz 100)] (c4_init l w _ _ _ 64 100 65 x64 a64 rfl (by decide +kernel) rfl (by decide) (i := 100) rfl (show _ = WL102 from rfl)) rfl wm_103 wm_46 wm_22 wm_47 rfl ⟨by decide +kernel, by decide +kernel, by decide +kernel⟩ ⟨rfl, rfl, (Nat.le_of_ble_eq_true rfl), (Nat.le_of_ble_eq_true rfl)⟩ rfl hl.1 (Nat.le_of_ble_eq_true rfl) rfl dX3_init_24 ⟨(Nat.le_of_ble_eq_true rfl), (Nat.le_of_ble_eq_true rfl)⟩ (fun g H locs hg G => ?_)
  have a61 := (hg 61 (Nat.le_of_ble_eq_true rfl)).trans a61
  have a1 := (hg 1 (Nat.le_of_ble_eq_true rfl)).trans a1
  have a52 := (hg 52 (Nat.le_of_ble_eq_true rfl)).trans a52
  have a62 := (hg 62 (Nat.le_of_ble_eq_true rfl)).trans a62
  have a64 := (hg 64 (Nat.le_of_ble_eq_true rfl)).trans a64
  have E : ∀ k, k < 62 → g k = g0 k := fun k hk => (hg k (Nat.lt_of_lt_of_le hk (Nat.le_of_ble_eq_true rfl))).trans (E k hk)
  refine W.widen (k := 4) (n := 202) (Nat.le_of_ble_eq_true rfl) (Nat.le_of_ble_eq_true rfl) ?_
  refine g_putF (k := 61) (ci := 3) (cs := [2, 2, 65, 2, 2, 2, 2, 2, 2, 2, 2, 0, 0, 0, 0, 0]) hx hb hts hown 3 64 inlX3 tyX3 tyX3_ok nmX3 G rfl rfl (by decide) (by decide) wm_88 rfl hin rfl rfl rfl dX3_init_27 a61 a64 (show _ = WL103 from rfl) (fun H locs G => ?_)
  refine lv_aload_n hx hb dX3_init_30 rfl (lv_at hl 0 rfl) ?_
  refine g_newO (n := 66) (ci := 4) (C := RX4) (T := TX4) (N := 1) hx hb hts hown [2] inlX4 tyX4 tyX4_ok G hA rfl (by decide +kernel) rfl (fun j hj => by rcases (show j = 0 by omega) with rfl <;> rfl) (by decide) wm_86 wm_21 wm_22 (Nat.le_of_ble_eq_true rfl) (Nat.le_of_ble_eq_true rfl) dX3_init_31 (show _ = WL104 from rfl) (fun g x66 H a66 hg G => ?_)
  have a61 := (hg 61 (Nat.le_of_ble_eq_true rfl)).trans a61
  have a1 := (hg 1 (Nat.le_of_ble_eq_true rfl)).trans a1
  have a52 := (hg 52 (Nat.le_of_ble_eq_true rfl)).trans a52
  have a62 := (hg 62 (Nat.le_of_ble_eq_true rfl)).trans a62
  have a64 := (hg 64 (Nat.le_of_ble_eq_true rfl)).trans a64
  have E : ∀ k, k < 62 → g k = g0 k := fun k hk => (hg k (Nat.lt_of_lt_of_le hk (Nat.le_of_ble_eq_true rfl))).trans (E k hk)
  refine W.widen (k := 5) (n := 203) (Nat.le_of_ble_eq_true rfl) (Nat.le_of_ble_eq_true rfl) ?_
  refine lv_dup hx hb dX3_init_34 rfl ?_
  refine lv_bipush (v := iz 100) hx hb dX3_init_35 (by decide +kernel) ?_
  refine g_callC (n := 1) (rest := [.ref x66, .ref x61]) (n0 := 67) hx hb hml hts hown hNw hao hA G [.int (iz 100)] (c4_init l w _ _ _ 66 100 67 x66 a66 rfl (by decide +kernel) rfl (by decide) (i := 100) rfl (show _ = WL105 from rfl)) rfl wm_103 wm_46 wm_22 wm_47 rfl ⟨by decide +kernel, by decide +kernel, by decide +kernel⟩ ⟨rfl, rfl, (Nat.le_of_ble_eq_true rfl), (Nat.le_of_ble_eq_true rfl)⟩ rfl hl.1 (Nat.le_of_ble_eq_true rfl) rfl dX3_init_37 ⟨(Nat.le_of_ble_eq_true rfl), (Nat.le_of_ble_eq_true rfl)⟩ (fun g H locs hg G => ?_)
  have a61 := (hg 61 (Nat.le_of_ble_eq_true rfl)).trans a61
  have a1 := (hg 1 (Nat.le_of_ble_eq_true rfl)).trans a1
  have a52 := (hg 52 (Nat.le_of_ble_eq_true rfl)).trans a52
  have a62 := (hg 62 (Nat.le_of_ble_eq_true rfl)).trans a62
  have a64 := (hg 64 (Nat.le_of_ble_eq_true rfl)).trans a64
  have a66 := (hg 66 (Nat.le_of_ble_eq_true rfl)).trans a66
  have E : ∀ k, k < 62 → g k = g0 k := fun k hk => (hg k (Nat.lt_of_lt_of_le hk (Nat.le_of_ble_eq_true rfl))).trans (E k hk)
  refine W.widen (k := 6) (n := 303) (Nat.le_of_ble_eq_true rfl) (Nat.le_of_ble_eq_true rfl) ?_
  refine g_putF (k := 61) (ci := 3) (cs := [2, 2, 65, 67, 2, 2, 2, 2, 2, 2, 2, 0, 0, 0, 0, 0]) hx hb hts hown 4 66 inlX3 tyX3 tyX3_ok nmX3 G rfl rfl (by decide) (by decide) wm_89 rfl hin rfl rfl rfl dX3_init_40 a61 a66 (show _ = WL106 from rfl) (fun H locs G => ?_)
  refine lv_aload_n hx hb dX3_init_43 rfl (lv_at hl 0 rfl) ?_
  refine g_newO (n := 68) (ci := 4) (C := RX4) (T := TX4) (N := 1) hx hb hts hown [2] inlX4 tyX4 tyX4_ok G hA rfl (by decide +kernel) rfl (fun j hj => by rcases (show j = 0 by omega) with rfl <;> rfl) (by decide) wm_86 wm_21 wm_22 (Nat.le_of_ble_eq_true rfl) (Nat.le_of_ble_eq_true rfl) dX3_init_44 (show _ = WL107 from rfl) (fun g x68 H a68 hg G => ?_)
  have a61 := (hg 61 (Nat.le_of_ble_eq_true rfl)).trans a61
  have a1 := (hg 1 (Nat.le_of_ble_eq_true rfl)).trans a1
  have a52 := (hg 52 (Nat.le_of_ble_eq_true rfl)).trans a52
  have a62 := (hg 62 (Nat.le_of_ble_eq_true rfl)).trans a62
  have a64 := (hg 64 (Nat.le_of_ble_eq_true rfl)).trans a64
  have a66 := (hg 66 (Nat.le_of_ble_eq_true rfl)).trans a66
  have E : ∀ k, k < 62 → g k = g0 k := fun k hk => (hg k (Nat.lt_of_lt_of_le hk (Nat.le_of_ble_eq_true rfl))).trans (E k hk)
  refine W.widen (k := 7) (n := 304) (Nat.le_of_ble_eq_true rfl) (Nat.le_of_ble_eq_true rfl) ?_
  refine lv_dup hx hb dX3_init_47 rfl ?_
  refine lv_bipush (v := iz 100) hx hb dX3_init_48 (by decide +kernel) ?_
  refine g_callC (n := 1) (rest := [.ref x68, .ref x61]) (n0 := 69) hx hb hml hts hown hNw hao hA G [.int (iz 100)] (c4_init l w _ _ _ 68 100 69 x68 a68 rfl (by decide +kernel) rfl (by decide) (i := 100) rfl (show _ = WL108 from rfl)) rfl wm_103 wm_46 wm_22 wm_47 rfl ⟨by decide +kernel, by decide +kernel, by decide +kernel⟩ ⟨rfl, rfl, (Nat.le_of_ble_eq_true rfl), (Nat.le_of_ble_eq_true rfl)⟩ rfl hl.1 (Nat.le_of_ble_eq_true rfl) rfl dX3_init_50 ⟨(Nat.le_of_ble_eq_true rfl), (Nat.le_of_ble_eq_true rfl)⟩ (fun g H locs hg G => ?_)
  have a61 := (hg 61 (Nat.le_of_ble_eq_true rfl)).trans a61
  have a1 := (hg 1 (Nat.le_of_ble_eq_true rfl)).trans a1
  have a52 := (hg 52 (Nat.le_of_ble_eq_true rfl)).trans a52
  have a62 := (hg 62 (Nat.le_of_ble_eq_true rfl)).trans a62
  have a64 := (hg 64 (Nat.le_of_ble_eq_true rfl)).trans a64
  have a66 := (hg 66 (Nat.le_of_ble_eq_true rfl)).trans a66
  have a68 := (hg 68 (Nat.le_of_ble_eq_true rfl)).trans a68
  have E : ∀ k, k < 62 → g k = g0 k := fun k hk => (hg k (Nat.lt_of_lt_of_le hk (Nat.le_of_ble_eq_true rfl))).trans (E k hk)
  refine W.widen (k := 8) (n := 404) (Nat.le_of_ble_eq_true rfl) (Nat.le_of_ble_eq_true rfl) ?_
  refine g_putF (k := 61) (ci := 3) (cs := [2, 2, 65, 67, 69, 2, 2, 2, 2, 2, 2, 0, 0, 0, 0, 0]) hx hb hts hown 5 68 inlX3 tyX3 tyX3_ok nmX3 G rfl rfl (by decide) (by decide) wm_90 rfl hin rfl rfl rfl dX3_init_53 a61 a68 (show _ = WL109 from rfl) (fun H locs G => ?_)
  refine lv_aload_n hx hb dX3_init_56 rfl (lv_at hl 0 rfl) ?_
  refine g_newO (n := 70) (ci := 4) (C := RX4) (T := TX4) (N := 1) hx hb hts hown [2] inlX4 tyX4 tyX4_ok G hA rfl (by decide +kernel) rfl (fun j hj => by rcases (show j = 0 by omega) with rfl <;> rfl) (by decide) wm_86 wm_21 wm_22 (Nat.le_of_ble_eq_true rfl) (Nat.le_of_ble_eq_true rfl) dX3_init_57 (show _ = WL110 from rfl) (fun g x70 H a70 hg G => ?_)
  have a61 := (hg 61 (Nat.le_of_ble_eq_true rfl)).trans a61
  have a1 := (hg 1 (Nat.le_of_ble_eq_true rfl)).trans a1
  have a52 := (hg 52 (Nat.le_of_ble_eq_true rfl)).trans a52
  have a62 := (hg 62 (Nat.le_of_ble_eq_true rfl)).trans a62
  have a64 := (hg 64 (Nat.le_of_ble_eq_true rfl)).trans a64
  have a66 := (hg 66 (Nat.le_of_ble_eq_true rfl)).trans a66
  have a68 := (hg 68 (Nat.le_of_ble_eq_true rfl)).trans a68
  have E : ∀ k, k < 62 → g k = g0 k := fun k hk => (hg k (Nat.lt_of_lt_of_le hk (Nat.le_of_ble_eq_true rfl))).trans (E k hk)
  refine W.widen (k := 9) (n := 405) (Nat.le_of_ble_eq_true rfl) (Nat.le_of_ble_eq_true rfl) ?_
  refine lv_dup hx hb dX3_init_60 rfl ?_
  refine lv_bipush (v := iz 100) hx hb dX3_init_61 (by decide +kernel) ?_
  refine g_callC (n := 1) (rest := [.ref x70, .ref x61]) (n0 := 71) hx hb hml hts hown hNw hao hA G [.int (iz 100)] (c4_init l w _ _ _ 70 100 71 x70 a70 rfl (by decide +kernel) rfl (by decide) (i := 100) rfl (show _ = WL111 from rfl)) rfl wm_103 wm_46 wm_22 wm_47 rfl ⟨by decide +kernel, by decide +kernel, by decide +kernel⟩ ⟨rfl, rfl, (Nat.le_of_ble_eq_true rfl), (Nat.le_of_ble_eq_true rfl)⟩ rfl hl.1 (Nat.le_of_ble_eq_true rfl) rfl dX3_init_63 ⟨(Nat.le_of_ble_eq_true rfl), (Nat.le_of_ble_eq_true rfl)⟩ (fun g H locs hg G => ?_)
  have a61 := (hg 61 (Nat.le_of_ble_eq_true rfl)).trans a61
  have a1 := (hg 1 (Nat.le_of_ble_eq_true rfl)).trans a1
  have a52 := (hg 52 (Nat.le_of_ble_eq_true rfl)).trans a52
  have a62 := (hg 62 (Nat.le_of_ble_eq_true rfl)).trans a62
  have a64 := (hg 64 (Nat.le_of_ble_eq_true rfl)).trans a64
  have a66 := (hg 66 (Nat.le_of_ble_eq_true rfl)).trans a66
  have a68 := (hg 68 (Nat.le_of_ble_eq_true rfl)).trans a68
  have a70 := (hg 70 (Nat.le_of_ble_eq_true rfl)).trans a70
  have E : ∀ k, k < 62 → g k = g0 k := fun k hk => (hg k (Nat.lt_of_lt_of_le hk (Nat.le_of_ble_eq_true rfl))).trans (E k hk)
  refine W.widen (k := 10) (n := 505) (Nat.le_of_ble_eq_true rfl) (Nat.le_of_ble_eq_true rfl) ?_
  refine g_putF (k := 61) (ci := 3) (cs := [2, 2, 65, 67, 69, 71, 2, 2, 2, 2, 2, 0, 0, 0, 0, 0]) hx hb hts hown 6 70 inlX3 tyX3 tyX3_ok nmX3 G rfl rfl (by decide) (by decide) wm_91 rfl hin rfl rfl rfl dX3_init_66 a61 a70 (show _ = WL112 from rfl) (fun H locs G => ?_)
  refine lv_aload_n hx hb dX3_init_69 rfl (lv_at hl 0 rfl) ?_
  refine g_newO (n := 72) (ci := 4) (C := RX4) (T := TX4) (N := 1) hx hb hts hown [2] inlX4 tyX4 tyX4_ok G hA rfl (by decide +kernel) rfl (fun j hj => by rcases (show j = 0 by omega) with rfl <;> rfl) (by decide) wm_86 wm_21 wm_22 (Nat.le_of_ble_eq_true rfl) (Nat.le_of_ble_eq_true rfl) dX3_init_70 (show _ = WL113 from rfl) (fun g x72 H a72 hg G => ?_)
  have a61 := (hg 61 (Nat.le_of_ble_eq_true rfl)).trans a61
  have a1 := (hg 1 (Nat.le_of_ble_eq_true rfl)).trans a1
  have a52 := (hg 52 (Nat.le_of_ble_eq_true rfl)).trans a52
  have a62 := (hg 62 (Nat.le_of_ble_eq_true rfl)).trans a62
  have a64 := (hg 64 (Nat.le_of_ble_eq_true rfl)).trans a64
  have a66 := (hg 66 (Nat.le_of_ble_eq_true rfl)).trans a66
  have a68 := (hg 68 (Nat.le_of_ble_eq_true rfl)).trans a68
  have a70 := (hg 70 (Nat.le_of_ble_eq_true rfl)).trans a70
  have E : ∀ k, k < 62 → g k = g0 k := fun k hk => (hg k (Nat.lt_of_lt_of_le hk (Nat.le_of_ble_eq_true rfl))).trans (E k hk)
  refine W.widen (k := 11) (n := 506) (Nat.le_of_ble_eq_true rfl) (Nat.le_of_ble_eq_true rfl) ?_
  refine lv_dup hx hb dX3_init_73 rfl ?_
  refine lv_bipush (v := iz 100) hx hb dX3_init_74 (by decide +kernel) ?_
  refine g_callC (n := 1) (rest := [.ref x72, .ref x61]) (n0 := 73) hx hb hml hts hown hNw hao hA G [.int (iz 100)] (c4_init l w _ _ _ 72 100 73 x72 a72 rfl (by decide +kernel) rfl (by decide) (i := 100) rfl (show _ = WL114 from rfl)) rfl wm_103 wm_46 wm_22 wm_47 rfl ⟨by decide +kernel, by decide +kernel, by decide +kernel⟩ ⟨rfl, rfl, (Nat.le_of_ble_eq_true rfl), (Nat.le_of_ble_eq_true rfl)⟩ rfl hl.1 (Nat.le_of_ble_eq_true rfl) rfl dX3_init_76 ⟨(Nat.le_of_ble_eq_true rfl), (Nat.le_of_ble_eq_true rfl)⟩ (fun g H locs hg G => ?_)
  have a61 := (hg 61 (Nat.le_of_ble_eq_true rfl)).trans a61
  have a1 := (hg 1 (Nat.le_of_ble_eq_true rfl)).trans a1
  have a52 := (hg 52 (Nat.le_of_ble_eq_true rfl)).trans a52
  have a62 := (hg 62 (Nat.le_of_ble_eq_true rfl)).trans a62
  have a64 := (hg 64 (Nat.le_of_ble_eq_true rfl)).trans a64
  have a66 := (hg 66 (Nat.le_of_ble_eq_true rfl)).trans a66
  have a68 := (hg 68 (Nat.le_of_ble_eq_true rfl)).trans a68
  have a70 := (hg 70 (Nat.le_of_ble_eq_true rfl)).trans a70
  have a72 := (hg 72 (Nat.le_of_ble_eq_true rfl)).trans a72
  have E : ∀ k, k < 62 → g k = g0 k := fun k hk => (hg k (Nat.lt_of_lt_of_le hk (Nat.le_of_ble_eq_true rfl))).trans (E k hk)
  refine W.widen (k := 12) (n := 606) (Nat.le_of_ble_eq_true rfl) (Nat.le_of_ble_eq_true rfl) ?_
  refine g_putF (k := 61) (ci := 3) (cs := [2, 2, 65, 67, 69, 71, 73, 2, 2, 2, 2, 0, 0, 0, 0, 0]) hx hb hts hown 7 72 inlX3 tyX3 tyX3_ok nmX3 G rfl rfl (by decide) (by decide) wm_92 rfl hin rfl rfl rfl dX3_init_79 a61 a72 (show _ = WL115 from rfl) (fun H locs G => ?_)
  refine lv_aload_n hx hb dX3_init_82 rfl (lv_at hl 0 rfl) ?_
  refine g_newO (n := 74) (ci := 4) (C := RX4) (T := TX4) (N := 1) hx hb hts hown [2] inlX4 tyX4 tyX4_ok G hA rfl (by decide +kernel) rfl (fun j hj => by rcases (show j = 0 by omega) with rfl <;> rfl) (by decide) wm_86 wm_21 wm_22 (Nat.le_of_ble_eq_true rfl) (Nat.le_of_ble_eq_true rfl) dX3_init_83 (show _ = WL116 from rfl) (fun g x74 H a74 hg G => ?_)
  have a61 := (hg 61 (Nat.le_of_ble_eq_true rfl)).trans a61
  have a1 := (hg 1 (Nat.le_of_ble_eq_true rfl)).trans a1
  have a52 := (hg 52 (Nat.le_of_ble_eq_true rfl)).trans a52
  have a62 := (hg 62 (Nat.le_of_ble_eq_true rfl)).trans a62
  have a64 := (hg 64 (Nat.le_of_ble_eq_true rfl)).trans a64
  have a66 := (hg 66 (Nat.le_of_ble_eq_true rfl)).trans a66
  have a68 := (hg 68 (Nat.le_of_ble_eq_true rfl)).trans a68
  have a70 := (hg 70 (Nat.le_of_ble_eq_true rfl)).trans a70
  have a72 := (hg 72 (Nat.le_of_ble_eq_true rfl)).trans a72
  have E : ∀ k, k < 62 → g k = g0 k := fun k hk => (hg k (Nat.lt_of_lt_of_le hk (Nat.le_of_ble_eq_true rfl))).trans (E k hk)
  refine W.widen (k := 13) (n := 607) (Nat.le_of_ble_eq_true rfl) (Nat.le_of_ble_eq_true rfl) ?_
  refine lv_dup hx hb dX3_init_86 rfl ?_
  refine lv_bipush (v := iz 100) hx hb dX3_init_87 (by decide +kernel) ?_
  refine g_callC (n := 1) (rest := [.ref x74, .ref x61]) (n0 := 75) hx hb hml hts hown hNw hao hA G [.int (iz 100)] (c4_init l w _ _ _ 74 100 75 x74 a74 rfl (by decide +kernel) rfl (by decide) (i := 100) rfl (show _ = WL117 from rfl)) rfl wm_103 wm_46 wm_22 wm_47 rfl ⟨by decide +kernel, by decide +kernel, by decide +kernel⟩ ⟨rfl, rfl, (Nat.le_of_ble_eq_true rfl), (Nat.le_of_ble_eq_true rfl)⟩ rfl hl.1 (Nat.le_of_ble_eq_true rfl) rfl dX3_init_89 ⟨(Nat.le_of_ble_eq_true rfl), (Nat.le_of_ble_eq_true rfl)⟩ (fun g H locs hg G => ?_)
  have a61 := (hg 61 (Nat.le_of_ble_eq_true rfl)).trans a61
  have a1 := (hg 1 (Nat.le_of_ble_eq_true rfl)).trans a1
  have a52 := (hg 52 (Nat.le_of_ble_eq_true rfl)).trans a52
  have a62 := (hg 62 (Nat.le_of_ble_eq_true rfl)).trans a62
  have a64 := (hg 64 (Nat.le_of_ble_eq_true rfl)).trans a64
  have a66 := (hg 66 (Nat.le_of_ble_eq_true rfl)).trans a66
  have a68 := (hg 68 (Nat.le_of_ble_eq_true rfl)).trans a68
  have a70 := (hg 70 (Nat.le_of_ble_eq_true rfl)).trans a70
  have a72 := (hg 72 (Nat.le_of_ble_eq_true rfl)).trans a72
  have a74 := (hg 74 (Nat.le_of_ble_eq_true rfl)).trans a74
  have E : ∀ k, k < 62 → g k = g0 k := fun k hk => (hg k (Nat.lt_of_lt_of_le hk (Nat.le_of_ble_eq_true rfl))).trans (E k hk)
  refine W.widen (k := 14) (n := 707) (Nat.le_of_ble_eq_true rfl) (Nat.le_of_ble_eq_true rfl) ?_
  refine g_putF (k := 61) (ci := 3) (cs := [2, 2, 65, 67, 69, 71, 73, 75, 2, 2, 2, 0, 0, 0, 0, 0]) hx hb hts hown 8 74 inlX3 tyX3 tyX3_ok nmX3 G rfl rfl (by decide) (by decide) wm_93 rfl hin rfl rfl rfl dX3_init_92 a61 a74 (show _ = WL118 from rfl) (fun H locs G => ?_)
  refine lv_aload_n hx hb dX3_init_95 rfl (lv_at hl 0 rfl) ?_
  refine g_newO (n := 76) (ci := 4) (C := RX4) (T := TX4) (N := 1) hx hb hts hown [2] inlX4 tyX4 tyX4_ok G hA rfl (by decide +kernel) rfl (fun j hj => by rcases (show j = 0 by omega) with rfl <;> rfl) (by decide) wm_86 wm_21 wm_22 (Nat.le_of_ble_eq_true rfl) (Nat.le_of_ble_eq_true rfl) dX3_init_96 (show _ = WL119 from rfl) (fun g x76 H a76 hg G => ?_)
  have a61 := (hg 61 (Nat.le_of_ble_eq_true rfl)).trans a61
  have a1 := (hg 1 (Nat.le_of_ble_eq_true rfl)).trans a1
  have a52 := (hg 52 (Nat.le_of_ble_eq_true rfl)).trans a52
  have a62 := (hg 62 (Nat.le_of_ble_eq_true rfl)).trans a62
  have a64 := (hg 64 (Nat.le_of_ble_eq_true rfl)).trans a64
  have a66 := (hg 66 (Nat.le_of_ble_eq_true rfl)).trans a66
  have a68 := (hg 68 (Nat.le_of_ble_eq_true rfl)).trans a68
  have a70 := (hg 70 (Nat.le_of_ble_eq_true rfl)).trans a70
  have a72 := (hg 72 (Nat.le_of_ble_eq_true rfl)).trans a72
  have a74 := (hg 74 (Nat.le_of_ble_eq_true rfl)).trans a74
  have E : ∀ k, k < 62 → g k = g0 k := fun k hk => (hg k (Nat.lt_of_lt_of_le hk (Nat.le_of_ble_eq_true rfl))).trans (E k hk)
  refine W.widen (k := 15) (n := 708) (Nat.le_of_ble_eq_true rfl) (Nat.le_of_ble_eq_true rfl) ?_
  refine lv_dup hx hb dX3_init_99 rfl ?_
  refine lv_bipush (v := iz 100) hx hb dX3_init_100 (by decide +kernel) ?_
  refine g_callC (n := 1) (rest := [.ref x76, .ref x61]) (n0 := 77) hx hb hml hts hown hNw hao hA G [.int (iz 100)] (c4_init l w _ _ _ 76 100 77 x76 a76 rfl (by decide +kernel) rfl (by decide) (i := 100) rfl (show _ = WL120 from rfl)) rfl wm_103 wm_46 wm_22 wm_47 rfl ⟨by decide +kernel, by decide +kernel, by decide +kernel⟩ ⟨rfl, rfl, (Nat.le_of_ble_eq_true rfl), (Nat.le_of_ble_eq_true rfl)⟩ rfl hl.1 (Nat.le_of_ble_eq_true rfl) rfl dX3_init_102 ⟨(Nat.le_of_ble_eq_true rfl), (Nat.le_of_ble_eq_true rfl)⟩ (fun g H locs hg G => ?_)
  have a61 := (hg 61 (Nat.le_of_ble_eq_true rfl)).trans a61
  have a1 := (hg 1 (Nat.le_of_ble_eq_true rfl)).trans a1
  have a52 := (hg 52 (Nat.le_of_ble_eq_true rfl)).trans a52
  have a62 := (hg 62 (Nat.le_of_ble_eq_true rfl)).trans a62
  have a64 := (hg 64 (Nat.le_of_ble_eq_true rfl)).trans a64
  have a66 := (hg 66 (Nat.le_of_ble_eq_true rfl)).trans a66
  have a68 := (hg 68 (Nat.le_of_ble_eq_true rfl)).trans a68
  have a70 := (hg 70 (Nat.le_of_ble_eq_true rfl)).trans a70
  have a72 := (hg 72 (Nat.le_of_ble_eq_true rfl)).trans a72
  have a74 := (hg 74 (Nat.le_of_ble_eq_true rfl)).trans a74
  have a76 := (hg 76 (Nat.le_of_ble_eq_true rfl)).trans a76
  have E : ∀ k, k < 62 → g k = g0 k := fun k hk => (hg k (Nat.lt_of_lt_of_le hk (Nat.le_of_ble_eq_true rfl))).trans (E k hk)
  refine W.widen (k := 16) (n := 808) (Nat.le_of_ble_eq_true rfl) (Nat.le_of_ble_eq_true rfl) ?_
  refine g_putF (k := 61) (ci := 3) (cs := [2, 2, 65, 67, 69, 71, 73, 75, 77, 2, 2, 0, 0, 0, 0, 0]) hx hb hts hown 9 76 inlX3 tyX3 tyX3_ok nmX3 G rfl rfl (by decide) (by decide) wm_94 rfl hin rfl rfl rfl dX3_init_105 a61 a76 (show _ = WL121 from rfl) (fun H locs G => ?_)
  refine lv_aload_n hx hb dX3_init_108 rfl (lv_at hl 0 rfl) ?_
  refine g_newO (n := 78) (ci := 4) (C := RX4) (T := TX4) (N := 1) hx hb hts hown [2] inlX4 tyX4 tyX4_ok G hA rfl (by decide +kernel) rfl (fun j hj => by rcases (show j = 0 by omega) with rfl <;> rfl) (by decide) wm_86 wm_21 wm_22 (Nat.le_of_ble_eq_true rfl) (Nat.le_of_ble_eq_true rfl) dX3_init_109 (show _ = WL122 from rfl) (fun g x78 H a78 hg G => ?_)
  have a61 := (hg 61 (Nat.le_of_ble_eq_true rfl)).trans a61
  have a1 := (hg 1 (Nat.le_of_ble_eq_true rfl)).trans a1
  have a52 := (hg 52 (Nat.le_of_ble_eq_true rfl)).trans a52
  have a62 := (hg 62 (Nat.le_of_ble_eq_true rfl)).trans a62
  have a64 := (hg 64 (Nat.le_of_ble_eq_true rfl)).trans a64
  have a66 := (hg 66 (Nat.le_of_ble_eq_true rfl)).trans a66
  have a68 := (hg 68 (Nat.le_of_ble_eq_true rfl)).trans a68
  have a70 := (hg 70 (Nat.le_of_ble_eq_true rfl)).trans a70
  have a72 := (hg 72 (Nat.le_of_ble_eq_true rfl)).trans a72
  have a74 := (hg 74 (Nat.le_of_ble_eq_true rfl)).trans a74
  have a76 := (hg 76 (Nat.le_of_ble_eq_true rfl)).trans a76
  have E : ∀ k, k < 62 → g k = g0 k := fun k hk => (hg k (Nat.lt_of_lt_of_le hk (Nat.le_of_ble_eq_true rfl))).trans (E k hk)
  refine W.widen (k := 17) (n := 809) (Nat.le_of_ble_eq_true rfl) (Nat.le_of_ble_eq_true rfl) ?_
  refine lv_dup hx hb dX3_init_112 rfl ?_
  refine lv_bipush (v := iz 100) hx hb dX3_init_113 (by decide +kernel) ?_
  refine g_callC (n := 1) (rest := [.ref x78, .ref x61]) (n0 := 79) hx hb hml hts hown hNw hao hA G [.int (iz 100)] (c4_init l w _ _ _ 78 100 79 x78 a78 rfl (by decide +kernel) rfl (by decide) (i := 100) rfl (show _ = WL123 from rfl)) rfl wm_103 wm_46 wm_22 wm_47 rfl ⟨by decide +kernel, by decide +kernel, by decide +kernel⟩ ⟨rfl, rfl, (Nat.le_of_ble_eq_true rfl), (Nat.le_of_ble_eq_true rfl)⟩ rfl hl.1 (Nat.le_of_ble_eq_true rfl) rfl dX3_init_115 ⟨(Nat.le_of_ble_eq_true rfl), (Nat.le_of_ble_eq_true rfl)⟩ (fun g H locs hg G => ?_)
  have a61 := (hg 61 (Nat.le_of_ble_eq_true rfl)).trans a61
  have a1 := (hg 1 (Nat.le_of_ble_eq_true rfl)).trans a1
  have a52 := (hg 52 (Nat.le_of_ble_eq_true rfl)).trans a52
  have a62 := (hg 62 (Nat.le_of_ble_eq_true rfl)).trans a62
  have a64 := (hg 64 (Nat.le_of_ble_eq_true rfl)).trans a64
  have a66 := (hg 66 (Nat.le_of_ble_eq_true rfl)).trans a66
  have a68 := (hg 68 (Nat.le_of_ble_eq_true rfl)).trans a68
  have a70 := (hg 70 (Nat.le_of_ble_eq_true rfl)).trans a70
  have a72 := (hg 72 (Nat.le_of_ble_eq_true rfl)).trans a72
  have a74 := (hg 74 (Nat.le_of_ble_eq_true rfl)).trans a74
  have a76 := (hg 76 (Nat.le_of_ble_eq_true rfl)).trans a76
  have a78 := (hg 78 (Nat.le_of_ble_eq_true rfl)).trans a78
  have E : ∀ k, k < 62 → g k = g0 k := fun k hk => (hg k (Nat.lt_of_lt_of_le hk (Nat.le_of_ble_eq_true rfl))).trans (E k hk)
  refine W.widen (k := 18) (n := 909) (Nat.le_of_ble_eq_true rfl) (Nat.le_of_ble_eq_true rfl) ?_
  refine g_putF (k := 61) (ci := 3) (cs := [2, 2, 65, 67, 69, 71, 73, 75, 77, 79, 2, 0, 0, 0, 0, 0]) hx hb hts hown 10 78 inlX3 tyX3 tyX3_ok nmX3 G rfl rfl (by decide) (by decide) wm_95 rfl hin rfl rfl rfl dX3_init_118 a61 a78 (show _ = WL124 from rfl) (fun H locs G => ?_)
  refine lv_aload_n hx hb dX3_init_121 rfl (lv_at hl 0 rfl) ?_
  refine lv_iconst (v := iz 0) hx hb dX3_init_122 rfl ?_
  refine g_putA (k := 61) (ci := 3) (cs := [2, 2, 65, 67, 69, 71, 73, 75, 77, 79, 81, 0, 0, 0, 0, 0]) hx hb hts hown 11 inlX3 tyX3 tyX3_ok nmX3 G rfl rfl (by decide) rfl wm_96 rfl rfl rfl dX3_init_123 a61 (fun H locs G => ?_)
  refine lv_aload_n hx hb dX3_init_126 rfl (lv_at hl 0 rfl) ?_
  refine lv_iconst (v := iz 0) hx hb dX3_init_127 rfl ?_
  refine g_putA (k := 61) (ci := 3) (cs := [2, 2, 65, 67, 69, 71, 73, 75, 77, 79, 81, 0, 0, 0, 0, 0]) hx hb hts hown 12 inlX3 tyX3 tyX3_ok nmX3 G rfl rfl (by decide) rfl wm_97 rfl rfl rfl dX3_init_128 a61 (fun H locs G => ?_)
  refine lv_aload_n hx hb dX3_init_131 rfl (lv_at hl 0 rfl) ?_
  refine lv_iconst (v := iz 0) hx hb dX3_init_132 rfl ?_
  refine g_putA (k := 61) (ci := 3) (cs := [2, 2, 65, 67, 69, 71, 73, 75, 77, 79, 81, 0, 0, 0, 0, 0]) hx hb hts hown 13 inlX3 tyX3 tyX3_ok nmX3 G rfl rfl (by decide) rfl wm_98 rfl rfl rfl dX3_init_133 a61 (fun H locs G => ?_)
  refine lv_aload_n hx hb dX3_init_136 rfl (lv_at hl 0 rfl) ?_
  refine lv_iconst (v := iz 0) hx hb dX3_init_137 rfl ?_
  refine g_putA (k := 61) (ci := 3) (cs := [2, 2, 65, 67, 69, 71, 73, 75, 77, 79, 81, 0, 0, 0, 0, 0]) hx hb hts hown 14 inlX3 tyX3 tyX3_ok nmX3 G rfl rfl (by decide) rfl wm_99 rfl rfl rfl dX3_init_138 a61 (fun H locs G => ?_)
  refine lv_aload_n hx hb dX3_init_141 rfl (lv_at hl 0 rfl) ?_
  refine lv_iconst (v := iz 0) hx hb dX3_init_142 rfl ?_
  refine g_putA (k := 61) (ci := 3) (cs := [2, 2, 65, 67, 69, 71, 73, 75, 77, 79, 81, 0, 0, 0, 0, 0]) hx hb hts hown 15 inlX3 tyX3 tyX3_ok nmX3 G rfl rfl (by decide) rfl wm_100 rfl rfl rfl dX3_init_143 a61 (fun H locs G => ?_)
  refine lv_aload_n hx hb dX3_init_146 rfl (lv_at hl 0 rfl) ?_
  refine lv_aload_n hx hb dX3_init_147 rfl (lv_at hl 1 rfl) ?_
  refine g_putF (k := 61) (ci := 3) (cs := [2, 2, 65, 67, 69, 71, 73, 75, 77, 79, 81, 0, 0, 0, 0, 0]) hx hb hts hown 0 1 inlX3 tyX3 tyX3_ok nmX3 G rfl rfl (by decide) (by decide) wm_101 rfl hin rfl rfl rfl dX3_init_148 a61 a1 (show _ = WL125 from rfl) (fun H locs G => ?_)
  refine lv_aload_n hx hb dX3_init_151 rfl (lv_at hl 0 rfl) ?_
  refine lv_aload_n hx hb dX3_init_152 rfl (lv_at hl 2 rfl) ?_
  refine g_putF (k := 61) (ci := 3) (cs := [4, 2, 65, 67, 69, 71, 73, 75, 77, 79, 81, 0, 0, 0, 0, 0]) hx hb hts hown 1 52 inlX3 tyX3 tyX3_ok nmX3 G rfl rfl (by decide) (by decide) wm_102 rfl hin rfl rfl rfl dX3_init_153 a61 a52 (show _ = WL126 from rfl) (fun H locs G => ?_)
  exact g_cret (n0 := 62) hx hb hr hlk rfl hz E G (Nat.le_of_ble_eq_true rfl) (Nat.le_of_ble_eq_true rfl) dX3_init_156
def WL127 : List Sh := [(1, 6, [4, 13, 51, 53, 55, 64, 0, 0]), (1, 5, [5, 7, 9, 11, 0]), (1, 4, [6]), (0, 100, []), (1, 4, [8]), (0, 6, []), (1, 4, [10]), (0, 48, []), (1, 4, [12]), (0, 6, []), (1, 1, [14, 0, 0]), (2, 4, [15, 24, 33, 42]), (1, 5, [16, 18, 20, 22, 0]), (1, 4, [17]), (0, 100, []), (1, 4, [19]), (0, 6, []), (1, 4, [21]), (0, 48, []), (1, 4, [23]), (0, 6, []), (1, 5, [25, 27, 29, 31, 0]), (1, 4, [26]), (0, 100, []), (1, 4, [28]), (0, 6, []), (1, 4, [30]), (0, 48, []), (1, 4, [32]), (0, 6, []), (1, 5, [34, 36, 38, 40, 0]), (1, 4, [35]), (0, 100, []), (1, 4, [37]), (0, 6, []), (1, 4, [39]), (0, 48, []), (1, 4, [41]), (0, 6, []), (1, 5, [43, 45, 47, 49, 0]), (1, 4, [44]), (0, 100, []), (1, 4, [46]), (0, 6, []), (1, 4, [48]), (0, 48, []), (1, 4, [50]), (0, 6, []), (1, 4, [52]), (0, 8, []), (1, 4, [54]), (0, 3, []), (1, 2, [4, 56, 58, 60, 62]), (1, 4, [57]), (0, 101, []), (1, 4, [59]), (0, 101, []), (1, 4, [61]), (0, 101, []), (1, 0, [63]), (0, 5454, []), (1, 3, [4, 55, 65, 67, 69, 71, 73, 75, 77, 79, 81, 0, 0, 0, 0, 0]), (1, 4, [66]), (0, 100, []), (1, 4, [68]), (0, 100, []), (1, 4, [70]), (0, 100, []), (1, 4, [72]), (0, 100, []), (1, 4, [74]), (0, 100, []), (1, 4, [76]), (0, 100, []), (1, 4, [78]), (0, 100, []), (1, 4, [80]), (0, 100, []), (1, 4, [82]), (0, 100, [])]
def sg_Grammar_0 (σ : St) : St := (up (up (sg_Nodes_61 (ur (sg_Matcher_52 (ur (ur (ur (ur (ur (sg_History_10 (ur (sg_State_1 (ur σ 1 (fun _ => 0))) 10 (fun _ => 0))) 48 (fun _ => 0)) 49 (fun _ => 0)) 50 (fun _ => 0)) 51 (fun _ => 0)) 52 (fun _ => 0))) 61 (fun _ => 0))) 0 6 0) 0 7 1)
abbrev rc_Grammar_0 : Room := ({ frames := 4, cells := 79, slots := 7556, locals := 73 } : Room)
set_option maxHeartbeats 4000000 in
set_option maxRecDepth 100000 in
theorem cc_Grammar_0 (l : Launch) (w : GW) (g0 : Nat → Nat) (σ : St) (sz : Nat) (x0 : Nat) (a0 : g0 0 = x0) : Met l yX6_init (Cond.code yX6_init cX6_init 1 none :: wsL_law) rc_Grammar_0 (gPcC (gw w g0) WL0 σ sz [.ref x0]) (gQc w g0 WL0.length sz WL127 (sg_Grammar_0 σ)) 79 7556 (gA (gw w g0) WL0.length sz) := by
  refine g_metC (by decide) [.ref x0] (Nat.le_of_ble_eq_true rfl) ?_
  intro p e s m below meth c ls hz C0 hin hao hl G
  obtain ⟨hx, hb, hr, hml, hown, hts, hlk, hNw, hA⟩ := id C0
  have hown : s.vm.findClass RX6 = some m.cls := hown
  have hl : lv_has ls 1 [(0, .ref x0)] := hl
  have E : ∀ k, k < 1 → g0 k = g0 k := fun _ _ => rfl
  refine lv_aload_n hx hb dX6_init_0 rfl (lv_at hl 0 rfl) ?_
  refine g_objI hx hb hml hts hown wm_9 wm_10 wm_11 hl.1 (Nat.le_of_ble_eq_true rfl) (Nat.le_of_ble_eq_true rfl) dX6_init_1 ?_
  refine lv_aload_n hx hb dX6_init_4 rfl (lv_at hl 0 rfl) ?_
  refine g_newO (n := 1) (ci := 5) (C := RX5) (T := TX5) (N := 5) hx hb hts hown [2, 2, 2, 2, 0] inlX5 tyX5 tyX5_ok G hA rfl (by decide +kernel) rfl (fun j hj => by rcases (show j = 0 ∨ j = 1 ∨ j = 2 ∨ j = 3 ∨ j = 4 by omega) with rfl | rfl | rfl | rfl | rfl <;> rfl) (by decide) wm_12 wm_13 wm_14 (Nat.le_of_ble_eq_true rfl) (Nat.le_of_ble_eq_true rfl) dX6_init_5 (show _ = WL1 from rfl) (fun g x1 H a1 hg G => ?_)
  have a0 := (hg 0 (Nat.le_of_ble_eq_true rfl)).trans a0
  have E : ∀ k, k < 1 → g k = g0 k := fun k hk => (hg k (Nat.lt_of_lt_of_le hk (Nat.le_of_ble_eq_true rfl))).trans (E k hk)
  refine W.widen (k := 1) (n := 5) (Nat.le_of_ble_eq_true rfl) (Nat.le_of_ble_eq_true rfl) ?_
  refine lv_dup hx hb dX6_init_8 rfl ?_
  refine g_callC (n := 0) (rest := [.ref x1, .ref x0]) (n0 := 2) hx hb hml hts hown hNw hao hA G [] (cc_State_1 l w _ _ _ x1 a1) rfl wm_35 wm_36 wm_14 wm_37 rfl ⟨by decide +kernel, by decide +kernel, by decide +kernel⟩ ⟨rfl, rfl, (Nat.le_of_ble_eq_true rfl), (Nat.le_of_ble_eq_true rfl)⟩ rfl hl.1 (Nat.le_of_ble_eq_true rfl) rfl dX6_init_9 ⟨(Nat.le_of_ble_eq_true rfl), (Nat.le_of_ble_eq_true rfl)⟩ (fun g H locs hg G => ?_)
  have a0 := (hg 0 (Nat.le_of_ble_eq_true rfl)).trans a0
  have a1 := (hg 1 (Nat.le_of_ble_eq_true rfl)).trans a1
  have E : ∀ k, k < 1 → g k = g0 k := fun k hk => (hg k (Nat.lt_of_lt_of_le hk (Nat.le_of_ble_eq_true rfl))).trans (E k hk)
  refine W.widen (k := 9) (n := 169) (Nat.le_of_ble_eq_true rfl) (Nat.le_of_ble_eq_true rfl) ?_
  refine g_putF (k := 0) (ci := 6) (cs := [2, 2, 2, 2, 2, 2, 0, 0]) hx hb hts hown 0 1 inlX6 tyX6 tyX6_ok nmX6 G rfl rfl (by decide) (by decide) wm_15 rfl hin rfl rfl rfl dX6_init_12 a0 a1 (show _ = WL14 from rfl) (fun H locs G => ?_)
  refine lv_aload_n hx hb dX6_init_15 rfl (lv_at hl 0 rfl) ?_
  refine g_newO (n := 10) (ci := 1) (C := RX1) (T := TX1) (N := 3) hx hb hts hown [2, 0, 0] inlX1 tyX1 tyX1_ok G hA rfl (by decide +kernel) rfl (fun j hj => by rcases (show j = 0 ∨ j = 1 ∨ j = 2 by omega) with rfl | rfl | rfl <;> rfl) (by decide) wm_16 wm_17 wm_18 (Nat.le_of_ble_eq_true rfl) (Nat.le_of_ble_eq_true rfl) dX6_init_16 (show _ = WL15 from rfl) (fun g x10 H a10 hg G => ?_)
  have a0 := (hg 0 (Nat.le_of_ble_eq_true rfl)).trans a0
  have a1 := (hg 1 (Nat.le_of_ble_eq_true rfl)).trans a1
  have E : ∀ k, k < 1 → g k = g0 k := fun k hk => (hg k (Nat.lt_of_lt_of_le hk (Nat.le_of_ble_eq_true rfl))).trans (E k hk)
  refine W.widen (k := 10) (n := 172) (Nat.le_of_ble_eq_true rfl) (Nat.le_of_ble_eq_true rfl) ?_
  refine lv_dup hx hb dX6_init_19 rfl ?_
  refine g_callCN (n := 0) (host := "IslandGrammar") (rest := [.ref x10, .ref x0]) (n0 := 11) hx hb hml hts hown hNw hao hA G [] (cc_History_10 l w _ _ _ x10 a10) rfl (List.mem_of_getElem? (i := 0) rfl) wm_55 wm_18 wm_56 rfl ⟨by decide +kernel, by decide +kernel, by decide +kernel⟩ ⟨rfl, rfl, (Nat.le_of_ble_eq_true rfl), (Nat.le_of_ble_eq_true rfl)⟩ rfl hl.1 (Nat.le_of_ble_eq_true rfl) rfl dX6_init_20 ⟨(Nat.le_of_ble_eq_true rfl), (Nat.le_of_ble_eq_true rfl)⟩ (fun g H locs hg G => ?_)
  have a0 := (hg 0 (Nat.le_of_ble_eq_true rfl)).trans a0
  have a1 := (hg 1 (Nat.le_of_ble_eq_true rfl)).trans a1
  have a10 := (hg 10 (Nat.le_of_ble_eq_true rfl)).trans a10
  have E : ∀ k, k < 1 → g k = g0 k := fun k hk => (hg k (Nat.lt_of_lt_of_le hk (Nat.le_of_ble_eq_true rfl))).trans (E k hk)
  refine W.widen (k := 47) (n := 852) (Nat.le_of_ble_eq_true rfl) (Nat.le_of_ble_eq_true rfl) ?_
  refine g_putF (k := 0) (ci := 6) (cs := [4, 2, 2, 2, 2, 2, 0, 0]) hx hb hts hown 1 10 inlX6 tyX6 tyX6_ok nmX6 G rfl rfl (by decide) (by decide) wm_19 rfl hin rfl rfl rfl dX6_init_23 a0 a10 (show _ = WL74 from rfl) (fun H locs G => ?_)
  refine lv_aload_n hx hb dX6_init_26 rfl (lv_at hl 0 rfl) ?_
  refine g_newO (n := 48) (ci := 4) (C := RX4) (T := TX4) (N := 1) hx hb hts hown [2] inlX4 tyX4 tyX4_ok G hA rfl (by decide +kernel) rfl (fun j hj => by rcases (show j = 0 by omega) with rfl <;> rfl) (by decide) wm_20 wm_21 wm_22 (Nat.le_of_ble_eq_true rfl) (Nat.le_of_ble_eq_true rfl) dX6_init_27 (show _ = WL75 from rfl) (fun g x48 H a48 hg G => ?_)
  have a0 := (hg 0 (Nat.le_of_ble_eq_true rfl)).trans a0
  have a1 := (hg 1 (Nat.le_of_ble_eq_true rfl)).trans a1
  have a10 := (hg 10 (Nat.le_of_ble_eq_true rfl)).trans a10
  have E : ∀ k, k < 1 → g k = g0 k := fun k hk => (hg k (Nat.lt_of_lt_of_le hk (Nat.le_of_ble_eq_true rfl))).trans (E k hk)
  refine W.widen (k := 48) (n := 853) (Nat.le_of_ble_eq_true rfl) (Nat.le_of_ble_eq_true rfl) ?_
  refine lv_dup hx hb dX6_init_30 rfl ?_
  refine lv_bipush (v := iz 8) hx hb dX6_init_31 (by decide +kernel) ?_
  refine g_callC (n := 1) (rest := [.ref x48, .ref x0]) (n0 := 49) hx hb hml hts hown hNw hao hA G [.int (iz 8)] (c4_init l w _ _ _ 48 8 49 x48 a48 rfl (by decide +kernel) rfl (by decide) (i := 8) rfl (show _ = WL76 from rfl)) rfl wm_63 wm_46 wm_22 wm_47 rfl ⟨by decide +kernel, by decide +kernel, by decide +kernel⟩ ⟨rfl, rfl, (Nat.le_of_ble_eq_true rfl), (Nat.le_of_ble_eq_true rfl)⟩ rfl hl.1 (Nat.le_of_ble_eq_true rfl) rfl dX6_init_33 ⟨(Nat.le_of_ble_eq_true rfl), (Nat.le_of_ble_eq_true rfl)⟩ (fun g H locs hg G => ?_)
  have a0 := (hg 0 (Nat.le_of_ble_eq_true rfl)).trans a0
  have a1 := (hg 1 (Nat.le_of_ble_eq_true rfl)).trans a1
  have a10 := (hg 10 (Nat.le_of_ble_eq_true rfl)).trans a10
  have a48 := (hg 48 (Nat.le_of_ble_eq_true rfl)).trans a48
  have E : ∀ k, k < 1 → g k = g0 k := fun k hk => (hg k (Nat.lt_of_lt_of_le hk (Nat.le_of_ble_eq_true rfl))).trans (E k hk)
  refine W.widen (k := 49) (n := 861) (Nat.le_of_ble_eq_true rfl) (Nat.le_of_ble_eq_true rfl) ?_
  refine g_putF (k := 0) (ci := 6) (cs := [4, 13, 2, 2, 2, 2, 0, 0]) hx hb hts hown 2 48 inlX6 tyX6 tyX6_ok nmX6 G rfl rfl (by decide) (by decide) wm_23 rfl hin rfl rfl rfl dX6_init_36 a0 a48 (show _ = WL77 from rfl) (fun H locs G => ?_)
  refine lv_aload_n hx hb dX6_init_39 rfl (lv_at hl 0 rfl) ?_
  refine g_newO (n := 50) (ci := 4) (C := RX4) (T := TX4) (N := 1) hx hb hts hown [2] inlX4 tyX4 tyX4_ok G hA rfl (by decide +kernel) rfl (fun j hj => by rcases (show j = 0 by omega) with rfl <;> rfl) (by decide) wm_20 wm_21 wm_22 (Nat.le_of_ble_eq_true rfl) (Nat.le_of_ble_eq_true rfl) dX6_init_40 (show _ = WL78 from rfl) (fun g x50 H a50 hg G => ?_)
  have a0 := (hg 0 (Nat.le_of_ble_eq_true rfl)).trans a0
  have a1 := (hg 1 (Nat.le_of_ble_eq_true rfl)).trans a1
  have a10 := (hg 10 (Nat.le_of_ble_eq_true rfl)).trans a10
  have a48 := (hg 48 (Nat.le_of_ble_eq_true rfl)).trans a48
  have E : ∀ k, k < 1 → g k = g0 k := fun k hk => (hg k (Nat.lt_of_lt_of_le hk (Nat.le_of_ble_eq_true rfl))).trans (E k hk)
  refine W.widen (k := 50) (n := 862) (Nat.le_of_ble_eq_true rfl) (Nat.le_of_ble_eq_true rfl) ?_
  refine lv_dup hx hb dX6_init_43 rfl ?_
  refine lv_iconst (v := iz 3) hx hb dX6_init_44 rfl ?_
  refine g_callC (n := 1) (rest := [.ref x50, .ref x0]) (n0 := 51) hx hb hml hts hown hNw hao hA G [.int (iz 3)] (c4_init l w _ _ _ 50 3 51 x50 a50 rfl (by decide +kernel) rfl (by decide) (i := 3) rfl (show _ = WL79 from rfl)) rfl wm_63 wm_46 wm_22 wm_47 rfl ⟨by decide +kernel, by decide +kernel, by decide +kernel⟩ ⟨rfl, rfl, (Nat.le_of_ble_eq_true rfl), (Nat.le_of_ble_eq_true rfl)⟩ rfl hl.1 (Nat.le_of_ble_eq_true rfl) rfl dX6_init_45 ⟨(Nat.le_of_ble_eq_true rfl), (Nat.le_of_ble_eq_true rfl)⟩ (fun g H locs hg G => ?_)
  have a0 := (hg 0 (Nat.le_of_ble_eq_true rfl)).trans a0
  have a1 := (hg 1 (Nat.le_of_ble_eq_true rfl)).trans a1
  have a10 := (hg 10 (Nat.le_of_ble_eq_true rfl)).trans a10
  have a48 := (hg 48 (Nat.le_of_ble_eq_true rfl)).trans a48
  have a50 := (hg 50 (Nat.le_of_ble_eq_true rfl)).trans a50
  have E : ∀ k, k < 1 → g k = g0 k := fun k hk => (hg k (Nat.lt_of_lt_of_le hk (Nat.le_of_ble_eq_true rfl))).trans (E k hk)
  refine W.widen (k := 51) (n := 865) (Nat.le_of_ble_eq_true rfl) (Nat.le_of_ble_eq_true rfl) ?_
  refine g_putF (k := 0) (ci := 6) (cs := [4, 13, 51, 2, 2, 2, 0, 0]) hx hb hts hown 3 50 inlX6 tyX6 tyX6_ok nmX6 G rfl rfl (by decide) (by decide) wm_24 rfl hin rfl rfl rfl dX6_init_48 a0 a50 (show _ = WL80 from rfl) (fun H locs G => ?_)
  refine lv_aload_n hx hb dX6_init_51 rfl (lv_at hl 0 rfl) ?_
  refine g_newO (n := 52) (ci := 2) (C := RX2) (T := TX2) (N := 5) hx hb hts hown [2, 2, 2, 2, 2] inlX2 tyX2 tyX2_ok G hA rfl (by decide +kernel) rfl (fun j hj => by rcases (show j = 0 ∨ j = 1 ∨ j = 2 ∨ j = 3 ∨ j = 4 by omega) with rfl | rfl | rfl | rfl | rfl <;> rfl) (by decide) wm_25 wm_26 wm_27 (Nat.le_of_ble_eq_true rfl) (Nat.le_of_ble_eq_true rfl) dX6_init_52 (show _ = WL81 from rfl) (fun g x52 H a52 hg G => ?_)
  have a0 := (hg 0 (Nat.le_of_ble_eq_true rfl)).trans a0
  have a1 := (hg 1 (Nat.le_of_ble_eq_true rfl)).trans a1
  have a10 := (hg 10 (Nat.le_of_ble_eq_true rfl)).trans a10
  have a48 := (hg 48 (Nat.le_of_ble_eq_true rfl)).trans a48
  have a50 := (hg 50 (Nat.le_of_ble_eq_true rfl)).trans a50
  have E : ∀ k, k < 1 → g k = g0 k := fun k hk => (hg k (Nat.lt_of_lt_of_le hk (Nat.le_of_ble_eq_true rfl))).trans (E k hk)
  refine W.widen (k := 52) (n := 870) (Nat.le_of_ble_eq_true rfl) (Nat.le_of_ble_eq_true rfl) ?_
  refine lv_dup hx hb dX6_init_55 rfl ?_
  refine lv_aload_n hx hb dX6_init_56 rfl (lv_at hl 0 rfl) ?_
  refine g_getA (k := 0) (ci := 6) (cs := [4, 13, 51, 53, 2, 2, 0, 0]) hx hb hts hown 0 1 inlX6 G rfl rfl (by decide) rfl wm_15 dX6_init_57 a0 a1 ?_
  refine g_callC (n := 1) (rest := [.ref x52, .ref x0]) (n0 := 53) hx hb hml hts hown hNw hao hA G [.ref x1] (cc_Matcher_52 l w _ _ _ x52 a52 x1 a1) rfl wm_64 wm_65 wm_27 wm_66 rfl ⟨by decide +kernel, by decide +kernel, by decide +kernel⟩ ⟨rfl, rfl, (Nat.le_of_ble_eq_true rfl), (Nat.le_of_ble_eq_true rfl)⟩ rfl hl.1 (Nat.le_of_ble_eq_true rfl) rfl dX6_init_60 ⟨(Nat.le_of_ble_eq_true rfl), (Nat.le_of_ble_eq_true rfl)⟩ (fun g H locs hg G => ?_)
  have a0 := (hg 0 (Nat.le_of_ble_eq_true rfl)).trans a0
  have a1 := (hg 1 (Nat.le_of_ble_eq_true rfl)).trans a1
  have a10 := (hg 10 (Nat.le_of_ble_eq_true rfl)).trans a10
  have a48 := (hg 48 (Nat.le_of_ble_eq_true rfl)).trans a48
  have a50 := (hg 50 (Nat.le_of_ble_eq_true rfl)).trans a50
  have a52 := (hg 52 (Nat.le_of_ble_eq_true rfl)).trans a52
  have E : ∀ k, k < 1 → g k = g0 k := fun k hk => (hg k (Nat.lt_of_lt_of_le hk (Nat.le_of_ble_eq_true rfl))).trans (E k hk)
  refine W.widen (k := 60) (n := 6631) (Nat.le_of_ble_eq_true rfl) (Nat.le_of_ble_eq_true rfl) ?_
  refine g_putF (k := 0) (ci := 6) (cs := [4, 13, 51, 53, 2, 2, 0, 0]) hx hb hts hown 4 52 inlX6 tyX6 tyX6_ok nmX6 G rfl rfl (by decide) (by decide) wm_28 rfl hin rfl rfl rfl dX6_init_63 a0 a52 (show _ = WL96 from rfl) (fun H locs G => ?_)
  refine lv_aload_n hx hb dX6_init_66 rfl (lv_at hl 0 rfl) ?_
  refine g_newO (n := 61) (ci := 3) (C := RX3) (T := TX3) (N := 16) hx hb hts hown [2, 2, 2, 2, 2, 2, 2, 2, 2, 2, 2, 0, 0, 0, 0, 0] inlX3 tyX3 tyX3_ok G hA rfl (by decide +kernel) rfl (fun j hj => by rcases (show j = 0 ∨ j = 1 ∨ j = 2 ∨ j = 3 ∨ j = 4 ∨ j = 5 ∨ j = 6 ∨ j = 7 ∨ j = 8 ∨ j = 9 ∨ j = 10 ∨ j = 11 ∨ j = 12 ∨ j = 13 ∨ j = 14 ∨ j = 15 by omega) with rfl | rfl | rfl | rfl | rfl | rfl | rfl | rfl | rfl | rfl | rfl | rfl | rfl | rfl | rfl | rfl <;> rfl) (by decide) wm_29 wm_30 wm_31 (Nat.le_of_ble_eq_true rfl) (Nat.le_of_ble_eq_true rfl) dX6_init_67 (show _ = WL97 from rfl) (fun g x61 H a61 hg G => ?_)
  have a0 := (hg 0 (Nat.le_of_ble_eq_true rfl)).trans a0
  have a1 := (hg 1 (Nat.le_of_ble_eq_true rfl)).trans a1
  have a10 := (hg 10 (Nat.le_of_ble_eq_true rfl)).trans a10
  have a48 := (hg 48 (Nat.le_of_ble_eq_true rfl)).trans a48
  have a50 := (hg 50 (Nat.le_of_ble_eq_true rfl)).trans a50
  have a52 := (hg 52 (Nat.le_of_ble_eq_true rfl)).trans a52
  have E : ∀ k, k < 1 → g k = g0 k := fun k hk => (hg k (Nat.lt_of_lt_of_le hk (Nat.le_of_ble_eq_true rfl))).trans (E k hk)
  refine W.widen (k := 61) (n := 6647) (Nat.le_of_ble_eq_true rfl) (Nat.le_of_ble_eq_true rfl) ?_
  refine lv_dup hx hb dX6_init_70 rfl ?_
  refine lv_aload_n hx hb dX6_init_71 rfl (lv_at hl 0 rfl) ?_
  refine g_getA (k := 0) (ci := 6) (cs := [4, 13, 51, 53, 55, 2, 0, 0]) hx hb hts hown 0 1 inlX6 G rfl rfl (by decide) rfl wm_15 dX6_init_72 a0 a1 ?_
  refine lv_aload_n hx hb dX6_init_75 rfl (lv_at hl 0 rfl) ?_
  refine g_getA (k := 0) (ci := 6) (cs := [4, 13, 51, 53, 55, 2, 0, 0]) hx hb hts hown 4 52 inlX6 G rfl rfl (by decide) rfl wm_28 dX6_init_76 a0 a52 ?_
  refine g_callC (n := 2) (rest := [.ref x61, .ref x0]) (n0 := 62) hx hb hml hts hown hNw hao hA G [.ref x1, .ref x52] (cc_Nodes_61 l w _ _ _ x61 a61 x1 a1 x52 a52) rfl wm_82 wm_83 wm_31 wm_84 rfl ⟨by decide +kernel, by decide +kernel, by decide +kernel⟩ ⟨rfl, rfl, (Nat.le_of_ble_eq_true rfl), (Nat.le_of_ble_eq_true rfl)⟩ rfl hl.1 (Nat.le_of_ble_eq_true rfl) rfl dX6_init_79 ⟨(Nat.le_of_ble_eq_true rfl), (Nat.le_of_ble_eq_true rfl)⟩ (fun g H locs hg G => ?_)
  have a0 := (hg 0 (Nat.le_of_ble_eq_true rfl)).trans a0
  have a1 := (hg 1 (Nat.le_of_ble_eq_true rfl)).trans a1
  have a10 := (hg 10 (Nat.le_of_ble_eq_true rfl)).trans a10
  have a48 := (hg 48 (Nat.le_of_ble_eq_true rfl)).trans a48
  have a50 := (hg 50 (Nat.le_of_ble_eq_true rfl)).trans a50
  have a52 := (hg 52 (Nat.le_of_ble_eq_true rfl)).trans a52
  have a61 := (hg 61 (Nat.le_of_ble_eq_true rfl)).trans a61
  have E : ∀ k, k < 1 → g k = g0 k := fun k hk => (hg k (Nat.lt_of_lt_of_le hk (Nat.le_of_ble_eq_true rfl))).trans (E k hk)
  refine W.widen (k := 79) (n := 7556) (Nat.le_of_ble_eq_true rfl) (Nat.le_of_ble_eq_true rfl) ?_
  refine g_putF (k := 0) (ci := 6) (cs := [4, 13, 51, 53, 55, 2, 0, 0]) hx hb hts hown 5 61 inlX6 tyX6 tyX6_ok nmX6 G rfl rfl (by decide) (by decide) wm_32 rfl hin rfl rfl rfl dX6_init_82 a0 a61 (show _ = WL127 from rfl) (fun H locs G => ?_)
  refine lv_aload_n hx hb dX6_init_85 rfl (lv_at hl 0 rfl) ?_
  refine lv_iconst (v := iz 0) hx hb dX6_init_86 rfl ?_
  refine g_putA (k := 0) (ci := 6) (cs := [4, 13, 51, 53, 55, 64, 0, 0]) hx hb hts hown 6 inlX6 tyX6 tyX6_ok nmX6 G rfl rfl (by decide) rfl wm_33 rfl rfl rfl dX6_init_87 a0 (fun H locs G => ?_)
  refine lv_aload_n hx hb dX6_init_90 rfl (lv_at hl 0 rfl) ?_
  refine lv_iconst (v := iz 1) hx hb dX6_init_91 rfl ?_
  refine g_putA (k := 0) (ci := 6) (cs := [4, 13, 51, 53, 55, 64, 0, 0]) hx hb hts hown 7 inlX6 tyX6 tyX6_ok nmX6 G rfl rfl (by decide) rfl wm_34 rfl rfl rfl dX6_init_92 a0 (fun H locs G => ?_)
  exact g_cret (n0 := 1) hx hb hr hlk rfl hz E G (Nat.le_of_ble_eq_true rfl) (Nat.le_of_ble_eq_true rfl) dX6_init_95
def WL128 : List Sh := [(1, 6, [4, 13, 51, 53, 55, 64, 0, 0]), (1, 5, [5, 7, 9, 11, 0]), (1, 4, [6]), (0, 100, []), (1, 4, [8]), (0, 6, []), (1, 4, [10]), (0, 48, []), (1, 4, [12]), (0, 6, []), (1, 1, [14, 0, 0]), (2, 4, [15, 24, 33, 42]), (1, 5, [16, 18, 20, 22, 0]), (1, 4, [17]), (0, 100, []), (1, 4, [19]), (0, 6, []), (1, 4, [21]), (0, 48, []), (1, 4, [23]), (0, 6, []), (1, 5, [25, 27, 29, 31, 0]), (1, 4, [26]), (0, 100, []), (1, 4, [28]), (0, 6, []), (1, 4, [30]), (0, 48, []), (1, 4, [32]), (0, 6, []), (1, 5, [34, 36, 38, 40, 0]), (1, 4, [35]), (0, 100, []), (1, 4, [37]), (0, 6, []), (1, 4, [39]), (0, 48, []), (1, 4, [41]), (0, 6, []), (1, 5, [43, 45, 47, 49, 0]), (1, 4, [44]), (0, 100, []), (1, 4, [46]), (0, 6, []), (1, 4, [48]), (0, 48, []), (1, 4, [50]), (0, 6, []), (1, 4, [52]), (0, 8, []), (1, 4, [54]), (0, 3, []), (1, 2, [4, 56, 58, 60, 62]), (1, 4, [57]), (0, 101, []), (1, 4, [59]), (0, 101, []), (1, 4, [61]), (0, 101, []), (1, 0, [63]), (0, 5454, []), (1, 3, [4, 55, 65, 67, 69, 71, 73, 75, 77, 79, 81, 0, 0, 0, 0, 0]), (1, 4, [66]), (0, 100, []), (1, 4, [68]), (0, 100, []), (1, 4, [70]), (0, 100, []), (1, 4, [72]), (0, 100, []), (1, 4, [74]), (0, 100, []), (1, 4, [76]), (0, 100, []), (1, 4, [78]), (0, 100, []), (1, 4, [80]), (0, 100, []), (1, 4, [82]), (0, 100, []), (1, 7, [2, 2, 0, 2, 0, 2, 2, 2, 2, 2, 2, 2, 0, 0, 0, 0, 1])]
def WL129 : List Sh := [(1, 6, [4, 13, 51, 53, 55, 64, 0, 0]), (1, 5, [5, 7, 9, 11, 0]), (1, 4, [6]), (0, 100, []), (1, 4, [8]), (0, 6, []), (1, 4, [10]), (0, 48, []), (1, 4, [12]), (0, 6, []), (1, 1, [14, 0, 0]), (2, 4, [15, 24, 33, 42]), (1, 5, [16, 18, 20, 22, 0]), (1, 4, [17]), (0, 100, []), (1, 4, [19]), (0, 6, []), (1, 4, [21]), (0, 48, []), (1, 4, [23]), (0, 6, []), (1, 5, [25, 27, 29, 31, 0]), (1, 4, [26]), (0, 100, []), (1, 4, [28]), (0, 6, []), (1, 4, [30]), (0, 48, []), (1, 4, [32]), (0, 6, []), (1, 5, [34, 36, 38, 40, 0]), (1, 4, [35]), (0, 100, []), (1, 4, [37]), (0, 6, []), (1, 4, [39]), (0, 48, []), (1, 4, [41]), (0, 6, []), (1, 5, [43, 45, 47, 49, 0]), (1, 4, [44]), (0, 100, []), (1, 4, [46]), (0, 6, []), (1, 4, [48]), (0, 48, []), (1, 4, [50]), (0, 6, []), (1, 4, [52]), (0, 8, []), (1, 4, [54]), (0, 3, []), (1, 2, [4, 56, 58, 60, 62]), (1, 4, [57]), (0, 101, []), (1, 4, [59]), (0, 101, []), (1, 4, [61]), (0, 101, []), (1, 0, [63]), (0, 5454, []), (1, 3, [4, 55, 65, 67, 69, 71, 73, 75, 77, 79, 81, 0, 0, 0, 0, 0]), (1, 4, [66]), (0, 100, []), (1, 4, [68]), (0, 100, []), (1, 4, [70]), (0, 100, []), (1, 4, [72]), (0, 100, []), (1, 4, [74]), (0, 100, []), (1, 4, [76]), (0, 100, []), (1, 4, [78]), (0, 100, []), (1, 4, [80]), (0, 100, []), (1, 4, [82]), (0, 100, []), (1, 7, [2, 2, 0, 2, 0, 2, 2, 2, 2, 2, 2, 2, 0, 0, 0, 0, 1]), (0, 161, [])]
def WL130 : List Sh := [(1, 6, [4, 13, 51, 53, 55, 64, 0, 0]), (1, 5, [5, 7, 9, 11, 0]), (1, 4, [6]), (0, 100, []), (1, 4, [8]), (0, 6, []), (1, 4, [10]), (0, 48, []), (1, 4, [12]), (0, 6, []), (1, 1, [14, 0, 0]), (2, 4, [15, 24, 33, 42]), (1, 5, [16, 18, 20, 22, 0]), (1, 4, [17]), (0, 100, []), (1, 4, [19]), (0, 6, []), (1, 4, [21]), (0, 48, []), (1, 4, [23]), (0, 6, []), (1, 5, [25, 27, 29, 31, 0]), (1, 4, [26]), (0, 100, []), (1, 4, [28]), (0, 6, []), (1, 4, [30]), (0, 48, []), (1, 4, [32]), (0, 6, []), (1, 5, [34, 36, 38, 40, 0]), (1, 4, [35]), (0, 100, []), (1, 4, [37]), (0, 6, []), (1, 4, [39]), (0, 48, []), (1, 4, [41]), (0, 6, []), (1, 5, [43, 45, 47, 49, 0]), (1, 4, [44]), (0, 100, []), (1, 4, [46]), (0, 6, []), (1, 4, [48]), (0, 48, []), (1, 4, [50]), (0, 6, []), (1, 4, [52]), (0, 8, []), (1, 4, [54]), (0, 3, []), (1, 2, [4, 56, 58, 60, 62]), (1, 4, [57]), (0, 101, []), (1, 4, [59]), (0, 101, []), (1, 4, [61]), (0, 101, []), (1, 0, [63]), (0, 5454, []), (1, 3, [4, 55, 65, 67, 69, 71, 73, 75, 77, 79, 81, 0, 0, 0, 0, 0]), (1, 4, [66]), (0, 100, []), (1, 4, [68]), (0, 100, []), (1, 4, [70]), (0, 100, []), (1, 4, [72]), (0, 100, []), (1, 4, [74]), (0, 100, []), (1, 4, [76]), (0, 100, []), (1, 4, [78]), (0, 100, []), (1, 4, [80]), (0, 100, []), (1, 4, [82]), (0, 100, []), (1, 7, [84, 2, 0, 2, 0, 2, 2, 2, 2, 2, 2, 2, 0, 0, 0, 0, 1]), (0, 161, [])]
def WL131 : List Sh := [(1, 6, [4, 13, 51, 53, 55, 64, 0, 0]), (1, 5, [5, 7, 9, 11, 0]), (1, 4, [6]), (0, 100, []), (1, 4, [8]), (0, 6, []), (1, 4, [10]), (0, 48, []), (1, 4, [12]), (0, 6, []), (1, 1, [14, 0, 0]), (2, 4, [15, 24, 33, 42]), (1, 5, [16, 18, 20, 22, 0]), (1, 4, [17]), (0, 100, []), (1, 4, [19]), (0, 6, []), (1, 4, [21]), (0, 48, []), (1, 4, [23]), (0, 6, []), (1, 5, [25, 27, 29, 31, 0]), (1, 4, [26]), (0, 100, []), (1, 4, [28]), (0, 6, []), (1, 4, [30]), (0, 48, []), (1, 4, [32]), (0, 6, []), (1, 5, [34, 36, 38, 40, 0]), (1, 4, [35]), (0, 100, []), (1, 4, [37]), (0, 6, []), (1, 4, [39]), (0, 48, []), (1, 4, [41]), (0, 6, []), (1, 5, [43, 45, 47, 49, 0]), (1, 4, [44]), (0, 100, []), (1, 4, [46]), (0, 6, []), (1, 4, [48]), (0, 48, []), (1, 4, [50]), (0, 6, []), (1, 4, [52]), (0, 8, []), (1, 4, [54]), (0, 3, []), (1, 2, [4, 56, 58, 60, 62]), (1, 4, [57]), (0, 101, []), (1, 4, [59]), (0, 101, []), (1, 4, [61]), (0, 101, []), (1, 0, [63]), (0, 5454, []), (1, 3, [4, 55, 65, 67, 69, 71, 73, 75, 77, 79, 81, 0, 0, 0, 0, 0]), (1, 4, [66]), (0, 100, []), (1, 4, [68]), (0, 100, []), (1, 4, [70]), (0, 100, []), (1, 4, [72]), (0, 100, []), (1, 4, [74]), (0, 100, []), (1, 4, [76]), (0, 100, []), (1, 4, [78]), (0, 100, []), (1, 4, [80]), (0, 100, []), (1, 4, [82]), (0, 100, []), (1, 7, [84, 2, 0, 2, 0, 2, 2, 2, 2, 2, 2, 2, 0, 0, 0, 0, 1]), (0, 161, []), (0, 644, [])]
def WL132 : List Sh := [(1, 6, [4, 13, 51, 53, 55, 64, 0, 0]), (1, 5, [5, 7, 9, 11, 0]), (1, 4, [6]), (0, 100, []), (1, 4, [8]), (0, 6, []), (1, 4, [10]), (0, 48, []), (1, 4, [12]), (0, 6, []), (1, 1, [14, 0, 0]), (2, 4, [15, 24, 33, 42]), (1, 5, [16, 18, 20, 22, 0]), (1, 4, [17]), (0, 100, []), (1, 4, [19]), (0, 6, []), (1, 4, [21]), (0, 48, []), (1, 4, [23]), (0, 6, []), (1, 5, [25, 27, 29, 31, 0]), (1, 4, [26]), (0, 100, []), (1, 4, [28]), (0, 6, []), (1, 4, [30]), (0, 48, []), (1, 4, [32]), (0, 6, []), (1, 5, [34, 36, 38, 40, 0]), (1, 4, [35]), (0, 100, []), (1, 4, [37]), (0, 6, []), (1, 4, [39]), (0, 48, []), (1, 4, [41]), (0, 6, []), (1, 5, [43, 45, 47, 49, 0]), (1, 4, [44]), (0, 100, []), (1, 4, [46]), (0, 6, []), (1, 4, [48]), (0, 48, []), (1, 4, [50]), (0, 6, []), (1, 4, [52]), (0, 8, []), (1, 4, [54]), (0, 3, []), (1, 2, [4, 56, 58, 60, 62]), (1, 4, [57]), (0, 101, []), (1, 4, [59]), (0, 101, []), (1, 4, [61]), (0, 101, []), (1, 0, [63]), (0, 5454, []), (1, 3, [4, 55, 65, 67, 69, 71, 73, 75, 77, 79, 81, 0, 0, 0, 0, 0]), (1, 4, [66]), (0, 100, []), (1, 4, [68]), (0, 100, []), (1, 4, [70]), (0, 100, []), (1, 4, [72]), (0, 100, []), (1, 4, [74]), (0, 100, []), (1, 4, [76]), (0, 100, []), (1, 4, [78]), (0, 100, []), (1, 4, [80]), (0, 100, []), (1, 4, [82]), (0, 100, []), (1, 7, [84, 85, 0, 2, 0, 2, 2, 2, 2, 2, 2, 2, 0, 0, 0, 0, 1]), (0, 161, []), (0, 644, [])]
def WL133 : List Sh := [(1, 6, [4, 13, 51, 53, 55, 64, 0, 0]), (1, 5, [5, 7, 9, 11, 0]), (1, 4, [6]), (0, 100, []), (1, 4, [8]), (0, 6, []), (1, 4, [10]), (0, 48, []), (1, 4, [12]), (0, 6, []), (1, 1, [14, 0, 0]), (2, 4, [15, 24, 33, 42]), (1, 5, [16, 18, 20, 22, 0]), (1, 4, [17]), (0, 100, []), (1, 4, [19]), (0, 6, []), (1, 4, [21]), (0, 48, []), (1, 4, [23]), (0, 6, []), (1, 5, [25, 27, 29, 31, 0]), (1, 4, [26]), (0, 100, []), (1, 4, [28]), (0, 6, []), (1, 4, [30]), (0, 48, []), (1, 4, [32]), (0, 6, []), (1, 5, [34, 36, 38, 40, 0]), (1, 4, [35]), (0, 100, []), (1, 4, [37]), (0, 6, []), (1, 4, [39]), (0, 48, []), (1, 4, [41]), (0, 6, []), (1, 5, [43, 45, 47, 49, 0]), (1, 4, [44]), (0, 100, []), (1, 4, [46]), (0, 6, []), (1, 4, [48]), (0, 48, []), (1, 4, [50]), (0, 6, []), (1, 4, [52]), (0, 8, []), (1, 4, [54]), (0, 3, []), (1, 2, [4, 56, 58, 60, 62]), (1, 4, [57]), (0, 101, []), (1, 4, [59]), (0, 101, []), (1, 4, [61]), (0, 101, []), (1, 0, [63]), (0, 5454, []), (1, 3, [4, 55, 65, 67, 69, 71, 73, 75, 77, 79, 81, 0, 0, 0, 0, 0]), (1, 4, [66]), (0, 100, []), (1, 4, [68]), (0, 100, []), (1, 4, [70]), (0, 100, []), (1, 4, [72]), (0, 100, []), (1, 4, [74]), (0, 100, []), (1, 4, [76]), (0, 100, []), (1, 4, [78]), (0, 100, []), (1, 4, [80]), (0, 100, []), (1, 4, [82]), (0, 100, []), (1, 7, [84, 85, 0, 2, 0, 2, 2, 2, 2, 2, 2, 2, 0, 0, 0, 0, 1]), (0, 161, []), (0, 644, []), (0, 8, [])]
def WL134 : List Sh := [(1, 6, [4, 13, 51, 53, 55, 64, 0, 0]), (1, 5, [5, 7, 9, 11, 0]), (1, 4, [6]), (0, 100, []), (1, 4, [8]), (0, 6, []), (1, 4, [10]), (0, 48, []), (1, 4, [12]), (0, 6, []), (1, 1, [14, 0, 0]), (2, 4, [15, 24, 33, 42]), (1, 5, [16, 18, 20, 22, 0]), (1, 4, [17]), (0, 100, []), (1, 4, [19]), (0, 6, []), (1, 4, [21]), (0, 48, []), (1, 4, [23]), (0, 6, []), (1, 5, [25, 27, 29, 31, 0]), (1, 4, [26]), (0, 100, []), (1, 4, [28]), (0, 6, []), (1, 4, [30]), (0, 48, []), (1, 4, [32]), (0, 6, []), (1, 5, [34, 36, 38, 40, 0]), (1, 4, [35]), (0, 100, []), (1, 4, [37]), (0, 6, []), (1, 4, [39]), (0, 48, []), (1, 4, [41]), (0, 6, []), (1, 5, [43, 45, 47, 49, 0]), (1, 4, [44]), (0, 100, []), (1, 4, [46]), (0, 6, []), (1, 4, [48]), (0, 48, []), (1, 4, [50]), (0, 6, []), (1, 4, [52]), (0, 8, []), (1, 4, [54]), (0, 3, []), (1, 2, [4, 56, 58, 60, 62]), (1, 4, [57]), (0, 101, []), (1, 4, [59]), (0, 101, []), (1, 4, [61]), (0, 101, []), (1, 0, [63]), (0, 5454, []), (1, 3, [4, 55, 65, 67, 69, 71, 73, 75, 77, 79, 81, 0, 0, 0, 0, 0]), (1, 4, [66]), (0, 100, []), (1, 4, [68]), (0, 100, []), (1, 4, [70]), (0, 100, []), (1, 4, [72]), (0, 100, []), (1, 4, [74]), (0, 100, []), (1, 4, [76]), (0, 100, []), (1, 4, [78]), (0, 100, []), (1, 4, [80]), (0, 100, []), (1, 4, [82]), (0, 100, []), (1, 7, [84, 85, 0, 86, 0, 2, 2, 2, 2, 2, 2, 2, 0, 0, 0, 0, 1]), (0, 161, []), (0, 644, []), (0, 8, [])]
def WL135 : List Sh := [(1, 6, [4, 13, 51, 53, 55, 64, 0, 0]), (1, 5, [5, 7, 9, 11, 0]), (1, 4, [6]), (0, 100, []), (1, 4, [8]), (0, 6, []), (1, 4, [10]), (0, 48, []), (1, 4, [12]), (0, 6, []), (1, 1, [14, 0, 0]), (2, 4, [15, 24, 33, 42]), (1, 5, [16, 18, 20, 22, 0]), (1, 4, [17]), (0, 100, []), (1, 4, [19]), (0, 6, []), (1, 4, [21]), (0, 48, []), (1, 4, [23]), (0, 6, []), (1, 5, [25, 27, 29, 31, 0]), (1, 4, [26]), (0, 100, []), (1, 4, [28]), (0, 6, []), (1, 4, [30]), (0, 48, []), (1, 4, [32]), (0, 6, []), (1, 5, [34, 36, 38, 40, 0]), (1, 4, [35]), (0, 100, []), (1, 4, [37]), (0, 6, []), (1, 4, [39]), (0, 48, []), (1, 4, [41]), (0, 6, []), (1, 5, [43, 45, 47, 49, 0]), (1, 4, [44]), (0, 100, []), (1, 4, [46]), (0, 6, []), (1, 4, [48]), (0, 48, []), (1, 4, [50]), (0, 6, []), (1, 4, [52]), (0, 8, []), (1, 4, [54]), (0, 3, []), (1, 2, [4, 56, 58, 60, 62]), (1, 4, [57]), (0, 101, []), (1, 4, [59]), (0, 101, []), (1, 4, [61]), (0, 101, []), (1, 0, [63]), (0, 5454, []), (1, 3, [4, 55, 65, 67, 69, 71, 73, 75, 77, 79, 81, 0, 0, 0, 0, 0]), (1, 4, [66]), (0, 100, []), (1, 4, [68]), (0, 100, []), (1, 4, [70]), (0, 100, []), (1, 4, [72]), (0, 100, []), (1, 4, [74]), (0, 100, []), (1, 4, [76]), (0, 100, []), (1, 4, [78]), (0, 100, []), (1, 4, [80]), (0, 100, []), (1, 4, [82]), (0, 100, []), (1, 7, [84, 85, 0, 86, 0, 2, 2, 2, 2, 2, 2, 2, 0, 0, 0, 0, 1]), (0, 161, []), (0, 644, []), (0, 8, []), (0, 3, [])]
def WL136 : List Sh := [(1, 6, [4, 13, 51, 53, 55, 64, 0, 0]), (1, 5, [5, 7, 9, 11, 0]), (1, 4, [6]), (0, 100, []), (1, 4, [8]), (0, 6, []), (1, 4, [10]), (0, 48, []), (1, 4, [12]), (0, 6, []), (1, 1, [14, 0, 0]), (2, 4, [15, 24, 33, 42]), (1, 5, [16, 18, 20, 22, 0]), (1, 4, [17]), (0, 100, []), (1, 4, [19]), (0, 6, []), (1, 4, [21]), (0, 48, []), (1, 4, [23]), (0, 6, []), (1, 5, [25, 27, 29, 31, 0]), (1, 4, [26]), (0, 100, []), (1, 4, [28]), (0, 6, []), (1, 4, [30]), (0, 48, []), (1, 4, [32]), (0, 6, []), (1, 5, [34, 36, 38, 40, 0]), (1, 4, [35]), (0, 100, []), (1, 4, [37]), (0, 6, []), (1, 4, [39]), (0, 48, []), (1, 4, [41]), (0, 6, []), (1, 5, [43, 45, 47, 49, 0]), (1, 4, [44]), (0, 100, []), (1, 4, [46]), (0, 6, []), (1, 4, [48]), (0, 48, []), (1, 4, [50]), (0, 6, []), (1, 4, [52]), (0, 8, []), (1, 4, [54]), (0, 3, []), (1, 2, [4, 56, 58, 60, 62]), (1, 4, [57]), (0, 101, []), (1, 4, [59]), (0, 101, []), (1, 4, [61]), (0, 101, []), (1, 0, [63]), (0, 5454, []), (1, 3, [4, 55, 65, 67, 69, 71, 73, 75, 77, 79, 81, 0, 0, 0, 0, 0]), (1, 4, [66]), (0, 100, []), (1, 4, [68]), (0, 100, []), (1, 4, [70]), (0, 100, []), (1, 4, [72]), (0, 100, []), (1, 4, [74]), (0, 100, []), (1, 4, [76]), (0, 100, []), (1, 4, [78]), (0, 100, []), (1, 4, [80]), (0, 100, []), (1, 4, [82]), (0, 100, []), (1, 7, [84, 85, 0, 86, 0, 87, 2, 2, 2, 2, 2, 2, 0, 0, 0, 0, 1]), (0, 161, []), (0, 644, []), (0, 8, []), (0, 3, [])]
def WL137 : List Sh := [(1, 6, [4, 13, 51, 53, 55, 64, 0, 0]), (1, 5, [5, 7, 9, 11, 0]), (1, 4, [6]), (0, 100, []), (1, 4, [8]), (0, 6, []), (1, 4, [10]), (0, 48, []), (1, 4, [12]), (0, 6, []), (1, 1, [14, 0, 0]), (2, 4, [15, 24, 33, 42]), (1, 5, [16, 18, 20, 22, 0]), (1, 4, [17]), (0, 100, []), (1, 4, [19]), (0, 6, []), (1, 4, [21]), (0, 48, []), (1, 4, [23]), (0, 6, []), (1, 5, [25, 27, 29, 31, 0]), (1, 4, [26]), (0, 100, []), (1, 4, [28]), (0, 6, []), (1, 4, [30]), (0, 48, []), (1, 4, [32]), (0, 6, []), (1, 5, [34, 36, 38, 40, 0]), (1, 4, [35]), (0, 100, []), (1, 4, [37]), (0, 6, []), (1, 4, [39]), (0, 48, []), (1, 4, [41]), (0, 6, []), (1, 5, [43, 45, 47, 49, 0]), (1, 4, [44]), (0, 100, []), (1, 4, [46]), (0, 6, []), (1, 4, [48]), (0, 48, []), (1, 4, [50]), (0, 6, []), (1, 4, [52]), (0, 8, []), (1, 4, [54]), (0, 3, []), (1, 2, [4, 56, 58, 60, 62]), (1, 4, [57]), (0, 101, []), (1, 4, [59]), (0, 101, []), (1, 4, [61]), (0, 101, []), (1, 0, [63]), (0, 5454, []), (1, 3, [4, 55, 65, 67, 69, 71, 73, 75, 77, 79, 81, 0, 0, 0, 0, 0]), (1, 4, [66]), (0, 100, []), (1, 4, [68]), (0, 100, []), (1, 4, [70]), (0, 100, []), (1, 4, [72]), (0, 100, []), (1, 4, [74]), (0, 100, []), (1, 4, [76]), (0, 100, []), (1, 4, [78]), (0, 100, []), (1, 4, [80]), (0, 100, []), (1, 4, [82]), (0, 100, []), (1, 7, [84, 85, 0, 86, 0, 87, 2, 2, 2, 2, 2, 2, 0, 0, 0, 0, 1]), (0, 161, []), (0, 644, []), (0, 8, []), (0, 3, []), (0, 5454, [])]
def WL138 : List Sh := [(1, 6, [4, 13, 51, 53, 55, 64, 0, 0]), (1, 5, [5, 7, 9, 11, 0]), (1, 4, [6]), (0, 100, []), (1, 4, [8]), (0, 6, []), (1, 4, [10]), (0, 48, []), (1, 4, [12]), (0, 6, []), (1, 1, [14, 0, 0]), (2, 4, [15, 24, 33, 42]), (1, 5, [16, 18, 20, 22, 0]), (1, 4, [17]), (0, 100, []), (1, 4, [19]), (0, 6, []), (1, 4, [21]), (0, 48, []), (1, 4, [23]), (0, 6, []), (1, 5, [25, 27, 29, 31, 0]), (1, 4, [26]), (0, 100, []), (1, 4, [28]), (0, 6, []), (1, 4, [30]), (0, 48, []), (1, 4, [32]), (0, 6, []), (1, 5, [34, 36, 38, 40, 0]), (1, 4, [35]), (0, 100, []), (1, 4, [37]), (0, 6, []), (1, 4, [39]), (0, 48, []), (1, 4, [41]), (0, 6, []), (1, 5, [43, 45, 47, 49, 0]), (1, 4, [44]), (0, 100, []), (1, 4, [46]), (0, 6, []), (1, 4, [48]), (0, 48, []), (1, 4, [50]), (0, 6, []), (1, 4, [52]), (0, 8, []), (1, 4, [54]), (0, 3, []), (1, 2, [4, 56, 58, 60, 62]), (1, 4, [57]), (0, 101, []), (1, 4, [59]), (0, 101, []), (1, 4, [61]), (0, 101, []), (1, 0, [63]), (0, 5454, []), (1, 3, [4, 55, 65, 67, 69, 71, 73, 75, 77, 79, 81, 0, 0, 0, 0, 0]), (1, 4, [66]), (0, 100, []), (1, 4, [68]), (0, 100, []), (1, 4, [70]), (0, 100, []), (1, 4, [72]), (0, 100, []), (1, 4, [74]), (0, 100, []), (1, 4, [76]), (0, 100, []), (1, 4, [78]), (0, 100, []), (1, 4, [80]), (0, 100, []), (1, 4, [82]), (0, 100, []), (1, 7, [84, 85, 0, 86, 0, 87, 88, 2, 2, 2, 2, 2, 0, 0, 0, 0, 1]), (0, 161, []), (0, 644, []), (0, 8, []), (0, 3, []), (0, 5454, [])]
def WL139 : List Sh := [(1, 6, [4, 13, 51, 53, 55, 64, 0, 0]), (1, 5, [5, 7, 9, 11, 0]), (1, 4, [6]), (0, 100, []), (1, 4, [8]), (0, 6, []), (1, 4, [10]), (0, 48, []), (1, 4, [12]), (0, 6, []), (1, 1, [14, 0, 0]), (2, 4, [15, 24, 33, 42]), (1, 5, [16, 18, 20, 22, 0]), (1, 4, [17]), (0, 100, []), (1, 4, [19]), (0, 6, []), (1, 4, [21]), (0, 48, []), (1, 4, [23]), (0, 6, []), (1, 5, [25, 27, 29, 31, 0]), (1, 4, [26]), (0, 100, []), (1, 4, [28]), (0, 6, []), (1, 4, [30]), (0, 48, []), (1, 4, [32]), (0, 6, []), (1, 5, [34, 36, 38, 40, 0]), (1, 4, [35]), (0, 100, []), (1, 4, [37]), (0, 6, []), (1, 4, [39]), (0, 48, []), (1, 4, [41]), (0, 6, []), (1, 5, [43, 45, 47, 49, 0]), (1, 4, [44]), (0, 100, []), (1, 4, [46]), (0, 6, []), (1, 4, [48]), (0, 48, []), (1, 4, [50]), (0, 6, []), (1, 4, [52]), (0, 8, []), (1, 4, [54]), (0, 3, []), (1, 2, [4, 56, 58, 60, 62]), (1, 4, [57]), (0, 101, []), (1, 4, [59]), (0, 101, []), (1, 4, [61]), (0, 101, []), (1, 0, [63]), (0, 5454, []), (1, 3, [4, 55, 65, 67, 69, 71, 73, 75, 77, 79, 81, 0, 0, 0, 0, 0]), (1, 4, [66]), (0, 100, []), (1, 4, [68]), (0, 100, []), (1, 4, [70]), (0, 100, []), (1, 4, [72]), (0, 100, []), (1, 4, [74]), (0, 100, []), (1, 4, [76]), (0, 100, []), (1, 4, [78]), (0, 100, []), (1, 4, [80]), (0, 100, []), (1, 4, [82]), (0, 100, []), (1, 7, [84, 85, 0, 86, 0, 87, 88, 2, 2, 2, 2, 2, 0, 0, 0, 0, 1]), (0, 161, []), (0, 644, []), (0, 8, []), (0, 3, []), (0, 5454, []), (0, 100, [])]
def WL140 : List Sh := [(1, 6, [4, 13, 51, 53, 55, 64, 0, 0]), (1, 5, [5, 7, 9, 11, 0]), (1, 4, [6]), (0, 100, []), (1, 4, [8]), (0, 6, []), (1, 4, [10]), (0, 48, []), (1, 4, [12]), (0, 6, []), (1, 1, [14, 0, 0]), (2, 4, [15, 24, 33, 42]), (1, 5, [16, 18, 20, 22, 0]), (1, 4, [17]), (0, 100, []), (1, 4, [19]), (0, 6, []), (1, 4, [21]), (0, 48, []), (1, 4, [23]), (0, 6, []), (1, 5, [25, 27, 29, 31, 0]), (1, 4, [26]), (0, 100, []), (1, 4, [28]), (0, 6, []), (1, 4, [30]), (0, 48, []), (1, 4, [32]), (0, 6, []), (1, 5, [34, 36, 38, 40, 0]), (1, 4, [35]), (0, 100, []), (1, 4, [37]), (0, 6, []), (1, 4, [39]), (0, 48, []), (1, 4, [41]), (0, 6, []), (1, 5, [43, 45, 47, 49, 0]), (1, 4, [44]), (0, 100, []), (1, 4, [46]), (0, 6, []), (1, 4, [48]), (0, 48, []), (1, 4, [50]), (0, 6, []), (1, 4, [52]), (0, 8, []), (1, 4, [54]), (0, 3, []), (1, 2, [4, 56, 58, 60, 62]), (1, 4, [57]), (0, 101, []), (1, 4, [59]), (0, 101, []), (1, 4, [61]), (0, 101, []), (1, 0, [63]), (0, 5454, []), (1, 3, [4, 55, 65, 67, 69, 71, 73, 75, 77, 79, 81, 0, 0, 0, 0, 0]), (1, 4, [66]), (0, 100, []), (1, 4, [68]), (0, 100, []), (1, 4, [70]), (0, 100, []), (1, 4, [72]), (0, 100, []), (1, 4, [74]), (0, 100, []), (1, 4, [76]), (0, 100, []), (1, 4, [78]), (0, 100, []), (1, 4, [80]), (0, 100, []), (1, 4, [82]), (0, 100, []), (1, 7, [84, 85, 0, 86, 0, 87, 88, 89, 2, 2, 2, 2, 0, 0, 0, 0, 1]), (0, 161, []), (0, 644, []), (0, 8, []), (0, 3, []), (0, 5454, []), (0, 100, [])]
def WL141 : List Sh := [(1, 6, [4, 13, 51, 53, 55, 64, 0, 0]), (1, 5, [5, 7, 9, 11, 0]), (1, 4, [6]), (0, 100, []), (1, 4, [8]), (0, 6, []), (1, 4, [10]), (0, 48, []), (1, 4, [12]), (0, 6, []), (1, 1, [14, 0, 0]), (2, 4, [15, 24, 33, 42]), (1, 5, [16, 18, 20, 22, 0]), (1, 4, [17]), (0, 100, []), (1, 4, [19]), (0, 6, []), (1, 4, [21]), (0, 48, []), (1, 4, [23]), (0, 6, []), (1, 5, [25, 27, 29, 31, 0]), (1, 4, [26]), (0, 100, []), (1, 4, [28]), (0, 6, []), (1, 4, [30]), (0, 48, []), (1, 4, [32]), (0, 6, []), (1, 5, [34, 36, 38, 40, 0]), (1, 4, [35]), (0, 100, []), (1, 4, [37]), (0, 6, []), (1, 4, [39]), (0, 48, []), (1, 4, [41]), (0, 6, []), (1, 5, [43, 45, 47, 49, 0]), (1, 4, [44]), (0, 100, []), (1, 4, [46]), (0, 6, []), (1, 4, [48]), (0, 48, []), (1, 4, [50]), (0, 6, []), (1, 4, [52]), (0, 8, []), (1, 4, [54]), (0, 3, []), (1, 2, [4, 56, 58, 60, 62]), (1, 4, [57]), (0, 101, []), (1, 4, [59]), (0, 101, []), (1, 4, [61]), (0, 101, []), (1, 0, [63]), (0, 5454, []), (1, 3, [4, 55, 65, 67, 69, 71, 73, 75, 77, 79, 81, 0, 0, 0, 0, 0]), (1, 4, [66]), (0, 100, []), (1, 4, [68]), (0, 100, []), (1, 4, [70]), (0, 100, []), (1, 4, [72]), (0, 100, []), (1, 4, [74]), (0, 100, []), (1, 4, [76]), (0, 100, []), (1, 4, [78]), (0, 100, []), (1, 4, [80]), (0, 100, []), (1, 4, [82]), (0, 100, []), (1, 7, [84, 85, 0, 86, 0, 87, 88, 89, 2, 2, 2, 2, 0, 0, 0, 0, 1]), (0, 161, []), (0, 644, []), (0, 8, []), (0, 3, []), (0, 5454, []), (0, 100, []), (0, 100, [])]
def WL142 : List Sh := [(1, 6, [4, 13, 51, 53, 55, 64, 0, 0]), (1, 5, [5, 7, 9, 11, 0]), (1, 4, [6]), (0, 100, []), (1, 4, [8]), (0, 6, []), (1, 4, [10]), (0, 48, []), (1, 4, [12]), (0, 6, []), (1, 1, [14, 0, 0]), (2, 4, [15, 24, 33, 42]), (1, 5, [16, 18, 20, 22, 0]), (1, 4, [17]), (0, 100, []), (1, 4, [19]), (0, 6, []), (1, 4, [21]), (0, 48, []), (1, 4, [23]), (0, 6, []), (1, 5, [25, 27, 29, 31, 0]), (1, 4, [26]), (0, 100, []), (1, 4, [28]), (0, 6, []), (1, 4, [30]), (0, 48, []), (1, 4, [32]), (0, 6, []), (1, 5, [34, 36, 38, 40, 0]), (1, 4, [35]), (0, 100, []), (1, 4, [37]), (0, 6, []), (1, 4, [39]), (0, 48, []), (1, 4, [41]), (0, 6, []), (1, 5, [43, 45, 47, 49, 0]), (1, 4, [44]), (0, 100, []), (1, 4, [46]), (0, 6, []), (1, 4, [48]), (0, 48, []), (1, 4, [50]), (0, 6, []), (1, 4, [52]), (0, 8, []), (1, 4, [54]), (0, 3, []), (1, 2, [4, 56, 58, 60, 62]), (1, 4, [57]), (0, 101, []), (1, 4, [59]), (0, 101, []), (1, 4, [61]), (0, 101, []), (1, 0, [63]), (0, 5454, []), (1, 3, [4, 55, 65, 67, 69, 71, 73, 75, 77, 79, 81, 0, 0, 0, 0, 0]), (1, 4, [66]), (0, 100, []), (1, 4, [68]), (0, 100, []), (1, 4, [70]), (0, 100, []), (1, 4, [72]), (0, 100, []), (1, 4, [74]), (0, 100, []), (1, 4, [76]), (0, 100, []), (1, 4, [78]), (0, 100, []), (1, 4, [80]), (0, 100, []), (1, 4, [82]), (0, 100, []), (1, 7, [84, 85, 0, 86, 0, 87, 88, 89, 90, 2, 2, 2, 0, 0, 0, 0, 1]), (0, 161, []), (0, 644, []), (0, 8, []), (0, 3, []), (0, 5454, []), (0, 100, []), (0, 100, [])]
def WL143 : List Sh := [(1, 6, [4, 13, 51, 53, 55, 64, 0, 0]), (1, 5, [5, 7, 9, 11, 0]), (1, 4, [6]), (0, 100, []), (1, 4, [8]), (0, 6, []), (1, 4, [10]), (0, 48, []), (1, 4, [12]), (0, 6, []), (1, 1, [14, 0, 0]), (2, 4, [15, 24, 33, 42]), (1, 5, [16, 18, 20, 22, 0]), (1, 4, [17]), (0, 100, []), (1, 4, [19]), (0, 6, []), (1, 4, [21]), (0, 48, []), (1, 4, [23]), (0, 6, []), (1, 5, [25, 27, 29, 31, 0]), (1, 4, [26]), (0, 100, []), (1, 4, [28]), (0, 6, []), (1, 4, [30]), (0, 48, []), (1, 4, [32]), (0, 6, []), (1, 5, [34, 36, 38, 40, 0]), (1, 4, [35]), (0, 100, []), (1, 4, [37]), (0, 6, []), (1, 4, [39]), (0, 48, []), (1, 4, [41]), (0, 6, []), (1, 5, [43, 45, 47, 49, 0]), (1, 4, [44]), (0, 100, []), (1, 4, [46]), (0, 6, []), (1, 4, [48]), (0, 48, []), (1, 4, [50]), (0, 6, []), (1, 4, [52]), (0, 8, []), (1, 4, [54]), (0, 3, []), (1, 2, [4, 56, 58, 60, 62]), (1, 4, [57]), (0, 101, []), (1, 4, [59]), (0, 101, []), (1, 4, [61]), (0, 101, []), (1, 0, [63]), (0, 5454, []), (1, 3, [4, 55, 65, 67, 69, 71, 73, 75, 77, 79, 81, 0, 0, 0, 0, 0]), (1, 4, [66]), (0, 100, []), (1, 4, [68]), (0, 100, []), (1, 4, [70]), (0, 100, []), (1, 4, [72]), (0, 100, []), (1, 4, [74]), (0, 100, []), (1, 4, [76]), (0, 100, []), (1, 4, [78]), (0, 100, []), (1, 4, [80]), (0, 100, []), (1, 4, [82]), (0, 100, []), (1, 7, [84, 85, 0, 86, 0, 87, 88, 89, 90, 2, 2, 2, 0, 0, 0, 0, 1]), (0, 161, []), (0, 644, []), (0, 8, []), (0, 3, []), (0, 5454, []), (0, 100, []), (0, 100, []), (0, 100, [])]
def WL144 : List Sh := [(1, 6, [4, 13, 51, 53, 55, 64, 0, 0]), (1, 5, [5, 7, 9, 11, 0]), (1, 4, [6]), (0, 100, []), (1, 4, [8]), (0, 6, []), (1, 4, [10]), (0, 48, []), (1, 4, [12]), (0, 6, []), (1, 1, [14, 0, 0]), (2, 4, [15, 24, 33, 42]), (1, 5, [16, 18, 20, 22, 0]), (1, 4, [17]), (0, 100, []), (1, 4, [19]), (0, 6, []), (1, 4, [21]), (0, 48, []), (1, 4, [23]), (0, 6, []), (1, 5, [25, 27, 29, 31, 0]), (1, 4, [26]), (0, 100, []), (1, 4, [28]), (0, 6, []), (1, 4, [30]), (0, 48, []), (1, 4, [32]), (0, 6, []), (1, 5, [34, 36, 38, 40, 0]), (1, 4, [35]), (0, 100, []), (1, 4, [37]), (0, 6, []), (1, 4, [39]), (0, 48, []), (1, 4, [41]), (0, 6, []), (1, 5, [43, 45, 47, 49, 0]), (1, 4, [44]), (0, 100, []), (1, 4, [46]), (0, 6, []), (1, 4, [48]), (0, 48, []), (1, 4, [50]), (0, 6, []), (1, 4, [52]), (0, 8, []), (1, 4, [54]), (0, 3, []), (1, 2, [4, 56, 58, 60, 62]), (1, 4, [57]), (0, 101, []), (1, 4, [59]), (0, 101, []), (1, 4, [61]), (0, 101, []), (1, 0, [63]), (0, 5454, []), (1, 3, [4, 55, 65, 67, 69, 71, 73, 75, 77, 79, 81, 0, 0, 0, 0, 0]), (1, 4, [66]), (0, 100, []), (1, 4, [68]), (0, 100, []), (1, 4, [70]), (0, 100, []), (1, 4, [72]), (0, 100, []), (1, 4, [74]), (0, 100, []), (1, 4, [76]), (0, 100, []), (1, 4, [78]), (0, 100, []), (1, 4, [80]), (0, 100, []), (1, 4, [82]), (0, 100, []), (1, 7, [84, 85, 0, 86, 0, 87, 88, 89, 90, 91, 2, 2, 0, 0, 0, 0, 1]), (0, 161, []), (0, 644, []), (0, 8, []), (0, 3, []), (0, 5454, []), (0, 100, []), (0, 100, []), (0, 100, [])]
def WL145 : List Sh := [(1, 6, [4, 13, 51, 53, 55, 64, 0, 0]), (1, 5, [5, 7, 9, 11, 0]), (1, 4, [6]), (0, 100, []), (1, 4, [8]), (0, 6, []), (1, 4, [10]), (0, 48, []), (1, 4, [12]), (0, 6, []), (1, 1, [14, 0, 0]), (2, 4, [15, 24, 33, 42]), (1, 5, [16, 18, 20, 22, 0]), (1, 4, [17]), (0, 100, []), (1, 4, [19]), (0, 6, []), (1, 4, [21]), (0, 48, []), (1, 4, [23]), (0, 6, []), (1, 5, [25, 27, 29, 31, 0]), (1, 4, [26]), (0, 100, []), (1, 4, [28]), (0, 6, []), (1, 4, [30]), (0, 48, []), (1, 4, [32]), (0, 6, []), (1, 5, [34, 36, 38, 40, 0]), (1, 4, [35]), (0, 100, []), (1, 4, [37]), (0, 6, []), (1, 4, [39]), (0, 48, []), (1, 4, [41]), (0, 6, []), (1, 5, [43, 45, 47, 49, 0]), (1, 4, [44]), (0, 100, []), (1, 4, [46]), (0, 6, []), (1, 4, [48]), (0, 48, []), (1, 4, [50]), (0, 6, []), (1, 4, [52]), (0, 8, []), (1, 4, [54]), (0, 3, []), (1, 2, [4, 56, 58, 60, 62]), (1, 4, [57]), (0, 101, []), (1, 4, [59]), (0, 101, []), (1, 4, [61]), (0, 101, []), (1, 0, [63]), (0, 5454, []), (1, 3, [4, 55, 65, 67, 69, 71, 73, 75, 77, 79, 81, 0, 0, 0, 0, 0]), (1, 4, [66]), (0, 100, []), (1, 4, [68]), (0, 100, []), (1, 4, [70]), (0, 100, []), (1, 4, [72]), (0, 100, []), (1, 4, [74]), (0, 100, []), (1, 4, [76]), (0, 100, []), (1, 4, [78]), (0, 100, []), (1, 4, [80]), (0, 100, []), (1, 4, [82]), (0, 100, []), (1, 7, [84, 85, 0, 86, 0, 87, 88, 89, 90, 91, 2, 2, 0, 0, 0, 0, 1]), (0, 161, []), (0, 644, []), (0, 8, []), (0, 3, []), (0, 5454, []), (0, 100, []), (0, 100, []), (0, 100, []), (0, 100, [])]
def WL146 : List Sh := [(1, 6, [4, 13, 51, 53, 55, 64, 0, 0]), (1, 5, [5, 7, 9, 11, 0]), (1, 4, [6]), (0, 100, []), (1, 4, [8]), (0, 6, []), (1, 4, [10]), (0, 48, []), (1, 4, [12]), (0, 6, []), (1, 1, [14, 0, 0]), (2, 4, [15, 24, 33, 42]), (1, 5, [16, 18, 20, 22, 0]), (1, 4, [17]), (0, 100, []), (1, 4, [19]), (0, 6, []), (1, 4, [21]), (0, 48, []), (1, 4, [23]), (0, 6, []), (1, 5, [25, 27, 29, 31, 0]), (1, 4, [26]), (0, 100, []), (1, 4, [28]), (0, 6, []), (1, 4, [30]), (0, 48, []), (1, 4, [32]), (0, 6, []), (1, 5, [34, 36, 38, 40, 0]), (1, 4, [35]), (0, 100, []), (1, 4, [37]), (0, 6, []), (1, 4, [39]), (0, 48, []), (1, 4, [41]), (0, 6, []), (1, 5, [43, 45, 47, 49, 0]), (1, 4, [44]), (0, 100, []), (1, 4, [46]), (0, 6, []), (1, 4, [48]), (0, 48, []), (1, 4, [50]), (0, 6, []), (1, 4, [52]), (0, 8, []), (1, 4, [54]), (0, 3, []), (1, 2, [4, 56, 58, 60, 62]), (1, 4, [57]), (0, 101, []), (1, 4, [59]), (0, 101, []), (1, 4, [61]), (0, 101, []), (1, 0, [63]), (0, 5454, []), (1, 3, [4, 55, 65, 67, 69, 71, 73, 75, 77, 79, 81, 0, 0, 0, 0, 0]), (1, 4, [66]), (0, 100, []), (1, 4, [68]), (0, 100, []), (1, 4, [70]), (0, 100, []), (1, 4, [72]), (0, 100, []), (1, 4, [74]), (0, 100, []), (1, 4, [76]), (0, 100, []), (1, 4, [78]), (0, 100, []), (1, 4, [80]), (0, 100, []), (1, 4, [82]), (0, 100, []), (1, 7, [84, 85, 0, 86, 0, 87, 88, 89, 90, 91, 92, 2, 0, 0, 0, 0, 1]), (0, 161, []), (0, 644, []), (0, 8, []), (0, 3, []), (0, 5454, []), (0, 100, []), (0, 100, []), (0, 100, []), (0, 100, [])]
def WL147 : List Sh := [(1, 6, [4, 13, 51, 53, 55, 64, 0, 0]), (1, 5, [5, 7, 9, 11, 0]), (1, 4, [6]), (0, 100, []), (1, 4, [8]), (0, 6, []), (1, 4, [10]), (0, 48, []), (1, 4, [12]), (0, 6, []), (1, 1, [14, 0, 0]), (2, 4, [15, 24, 33, 42]), (1, 5, [16, 18, 20, 22, 0]), (1, 4, [17]), (0, 100, []), (1, 4, [19]), (0, 6, []), (1, 4, [21]), (0, 48, []), (1, 4, [23]), (0, 6, []), (1, 5, [25, 27, 29, 31, 0]), (1, 4, [26]), (0, 100, []), (1, 4, [28]), (0, 6, []), (1, 4, [30]), (0, 48, []), (1, 4, [32]), (0, 6, []), (1, 5, [34, 36, 38, 40, 0]), (1, 4, [35]), (0, 100, []), (1, 4, [37]), (0, 6, []), (1, 4, [39]), (0, 48, []), (1, 4, [41]), (0, 6, []), (1, 5, [43, 45, 47, 49, 0]), (1, 4, [44]), (0, 100, []), (1, 4, [46]), (0, 6, []), (1, 4, [48]), (0, 48, []), (1, 4, [50]), (0, 6, []), (1, 4, [52]), (0, 8, []), (1, 4, [54]), (0, 3, []), (1, 2, [4, 56, 58, 60, 62]), (1, 4, [57]), (0, 101, []), (1, 4, [59]), (0, 101, []), (1, 4, [61]), (0, 101, []), (1, 0, [63]), (0, 5454, []), (1, 3, [4, 55, 65, 67, 69, 71, 73, 75, 77, 79, 81, 0, 0, 0, 0, 0]), (1, 4, [66]), (0, 100, []), (1, 4, [68]), (0, 100, []), (1, 4, [70]), (0, 100, []), (1, 4, [72]), (0, 100, []), (1, 4, [74]), (0, 100, []), (1, 4, [76]), (0, 100, []), (1, 4, [78]), (0, 100, []), (1, 4, [80]), (0, 100, []), (1, 4, [82]), (0, 100, []), (1, 7, [84, 85, 0, 86, 0, 87, 88, 89, 90, 91, 92, 2, 0, 0, 0, 0, 1]), (0, 161, []), (0, 644, []), (0, 8, []), (0, 3, []), (0, 5454, []), (0, 100, []), (0, 100, []), (0, 100, []), (0, 100, []), (0, 100, [])]
def sg_Model_80 (σ : St) : St := (up (up (up (up (up (up (ur (ur (ur (ur (ur (ur (ur (ur (ur (ur σ 81 (fun _ => 0)) 82 (fun _ => 0)) 83 (fun _ => 0)) 84 (fun _ => 0)) 85 (fun _ => 0)) 86 (fun _ => 0)) 87 (fun _ => 0)) 88 (fun _ => 0)) 89 (fun _ => 0)) 90 (fun _ => 0)) 81 155 (-1)) 81 156 (-1)) 81 157 (-1)) 81 158 (-1)) 81 159 (-1)) 81 160 (-1))
abbrev rc_Model_80 : Room := ({ frames := 1, cells := 10, slots := 6770, locals := 12 } : Room)
set_option maxHeartbeats 4000000 in
set_option maxRecDepth 100000 in
theorem cc_Model_80 (l : Launch) (w : GW) (g0 : Nat → Nat) (σ : St) (sz : Nat) (x80 : Nat) (a80 : g0 80 = x80) : Met l yX7_init (Cond.code yX7_init cX7_init 2 none :: wsL_law) rc_Model_80 (gPcC (gw w g0) WL128 σ sz [.ref x80]) (gQc w g0 WL128.length sz gSL (sg_Model_80 σ)) 10 6770 (gA (gw w g0) WL128.length sz) := by
  refine g_metC (by decide) [.ref x80] (Nat.le_of_ble_eq_true rfl) ?_
  intro p e s m below meth c ls hz C0 hin hao hl G
  obtain ⟨hx, hb, hr, hml, hown, hts, hlk, hNw, hA⟩ := id C0
  have hown : s.vm.findClass RX7 = some m.cls := hown
  have hl : lv_has ls 2 [(0, .ref x80)] := hl
  have E : ∀ k, k < 81 → g0 k = g0 k := fun _ _ => rfl
  refine lv_aload_n hx hb dX7_init_0 rfl (lv_at hl 0 rfl) ?_
  refine g_objI hx hb hml hts hown wm_107 wm_10 wm_11 hl.1 (Nat.le_of_ble_eq_true rfl) (Nat.le_of_ble_eq_true rfl) dX7_init_1 ?_
  refine lv_aload_n hx hb dX7_init_4 rfl (lv_at hl 0 rfl) ?_
  refine lv_sipush (v := iz 161) hx hb dX7_init_5 (by decide +kernel) ?_
  refine g_newI (n := 81) hx hb hts G hA rfl (by decide +kernel) wm_49 161 rfl (by decide) (Nat.le_of_ble_eq_true rfl) (Nat.le_of_ble_eq_true rfl) dX7_init_8 (show _ = WL129 from rfl) (fun g x81 H a81 hg G => ?_)
  have a80 := (hg 80 (Nat.le_of_ble_eq_true rfl)).trans a80
  have E : ∀ k, k < 81 → g k = g0 k := fun k hk => (hg k (Nat.lt_of_lt_of_le hk (Nat.le_of_ble_eq_true rfl))).trans (E k hk)
  refine W.widen (k := 1) (n := 161) (Nat.le_of_ble_eq_true rfl) (Nat.le_of_ble_eq_true rfl) ?_
  refine g_putF (k := 80) (ci := 7) (cs := [2, 2, 0, 2, 0, 2, 2, 2, 2, 2, 2, 2, 0, 0, 0, 0, 1]) hx hb hts hown 0 81 inlX7 tyX7 tyX7_ok nmX7 G rfl rfl (by decide) (by decide) wm_108 rfl hin rfl rfl rfl dX7_init_10 a80 a81 (show _ = WL130 from rfl) (fun H locs G => ?_)
  refine lv_aload_n hx hb dX7_init_13 rfl (lv_at hl 0 rfl) ?_
  refine lv_sipush (v := iz 644) hx hb dX7_init_14 (by decide +kernel) ?_
  refine g_newI (n := 82) hx hb hts G hA rfl (by decide +kernel) wm_49 644 rfl (by decide) (Nat.le_of_ble_eq_true rfl) (Nat.le_of_ble_eq_true rfl) dX7_init_17 (show _ = WL131 from rfl) (fun g x82 H a82 hg G => ?_)
  have a80 := (hg 80 (Nat.le_of_ble_eq_true rfl)).trans a80
  have a81 := (hg 81 (Nat.le_of_ble_eq_true rfl)).trans a81
  have E : ∀ k, k < 81 → g k = g0 k := fun k hk => (hg k (Nat.lt_of_lt_of_le hk (Nat.le_of_ble_eq_true rfl))).trans (E k hk)
  refine W.widen (k := 2) (n := 805) (Nat.le_of_ble_eq_true rfl) (Nat.le_of_ble_eq_true rfl) ?_
  refine g_putF (k := 80) (ci := 7) (cs := [84, 2, 0, 2, 0, 2, 2, 2, 2, 2, 2, 2, 0, 0, 0, 0, 1]) hx hb hts hown 1 82 inlX7 tyX7 tyX7_ok nmX7 G rfl rfl (by decide) (by decide) wm_109 rfl hin rfl rfl rfl dX7_init_19 a80 a82 (show _ = WL132 from rfl) (fun H locs G => ?_)
  refine lv_aload_n hx hb dX7_init_22 rfl (lv_at hl 0 rfl) ?_
  refine lv_bipush (v := iz 8) hx hb dX7_init_23 (by decide +kernel) ?_
  refine g_newI (n := 83) hx hb hts G hA rfl (by decide +kernel) wm_49 8 rfl (by decide) (Nat.le_of_ble_eq_true rfl) (Nat.le_of_ble_eq_true rfl) dX7_init_25 (show _ = WL133 from rfl) (fun g x83 H a83 hg G => ?_)
  have a80 := (hg 80 (Nat.le_of_ble_eq_true rfl)).trans a80
  have a81 := (hg 81 (Nat.le_of_ble_eq_true rfl)).trans a81
  have a82 := (hg 82 (Nat.le_of_ble_eq_true rfl)).trans a82
  have E : ∀ k, k < 81 → g k = g0 k := fun k hk => (hg k (Nat.lt_of_lt_of_le hk (Nat.le_of_ble_eq_true rfl))).trans (E k hk)
  refine W.widen (k := 3) (n := 813) (Nat.le_of_ble_eq_true rfl) (Nat.le_of_ble_eq_true rfl) ?_
  refine g_putF (k := 80) (ci := 7) (cs := [84, 85, 0, 2, 0, 2, 2, 2, 2, 2, 2, 2, 0, 0, 0, 0, 1]) hx hb hts hown 3 83 inlX7 tyX7 tyX7_ok nmX7 G rfl rfl (by decide) (by decide) wm_110 rfl hin rfl rfl rfl dX7_init_27 a80 a83 (show _ = WL134 from rfl) (fun H locs G => ?_)
  refine lv_aload_n hx hb dX7_init_30 rfl (lv_at hl 0 rfl) ?_
  refine lv_iconst (v := iz 3) hx hb dX7_init_31 rfl ?_
  refine g_newI (n := 84) hx hb hts G hA rfl (by decide +kernel) wm_49 3 rfl (by decide) (Nat.le_of_ble_eq_true rfl) (Nat.le_of_ble_eq_true rfl) dX7_init_32 (show _ = WL135 from rfl) (fun g x84 H a84 hg G => ?_)
  have a80 := (hg 80 (Nat.le_of_ble_eq_true rfl)).trans a80
  have a81 := (hg 81 (Nat.le_of_ble_eq_true rfl)).trans a81
  have a82 := (hg 82 (Nat.le_of_ble_eq_true rfl)).trans a82
  have a83 := (hg 83 (Nat.le_of_ble_eq_true rfl)).trans a83
  have E : ∀ k, k < 81 → g k = g0 k := fun k hk => (hg k (Nat.lt_of_lt_of_le hk (Nat.le_of_ble_eq_true rfl))).trans (E k hk)
  refine W.widen (k := 4) (n := 816) (Nat.le_of_ble_eq_true rfl) (Nat.le_of_ble_eq_true rfl) ?_
  refine g_putF (k := 80) (ci := 7) (cs := [84, 85, 0, 86, 0, 2, 2, 2, 2, 2, 2, 2, 0, 0, 0, 0, 1]) hx hb hts hown 5 84 inlX7 tyX7 tyX7_ok nmX7 G rfl rfl (by decide) (by decide) wm_111 rfl hin rfl rfl rfl dX7_init_34 a80 a84 (show _ = WL136 from rfl) (fun H locs G => ?_)
  refine lv_aload_n hx hb dX7_init_37 rfl (lv_at hl 0 rfl) ?_
  refine lv_sipush (v := iz 5454) hx hb dX7_init_38 (by decide +kernel) ?_
  refine g_newI (n := 85) hx hb hts G hA rfl (by decide +kernel) wm_49 5454 rfl (by decide) (Nat.le_of_ble_eq_true rfl) (Nat.le_of_ble_eq_true rfl) dX7_init_41 (show _ = WL137 from rfl) (fun g x85 H a85 hg G => ?_)
  have a80 := (hg 80 (Nat.le_of_ble_eq_true rfl)).trans a80
  have a81 := (hg 81 (Nat.le_of_ble_eq_true rfl)).trans a81
  have a82 := (hg 82 (Nat.le_of_ble_eq_true rfl)).trans a82
  have a83 := (hg 83 (Nat.le_of_ble_eq_true rfl)).trans a83
  have a84 := (hg 84 (Nat.le_of_ble_eq_true rfl)).trans a84
  have E : ∀ k, k < 81 → g k = g0 k := fun k hk => (hg k (Nat.lt_of_lt_of_le hk (Nat.le_of_ble_eq_true rfl))).trans (E k hk)
  refine W.widen (k := 5) (n := 6270) (Nat.le_of_ble_eq_true rfl) (Nat.le_of_ble_eq_true rfl) ?_
  refine g_putF (k := 80) (ci := 7) (cs := [84, 85, 0, 86, 0, 87, 2, 2, 2, 2, 2, 2, 0, 0, 0, 0, 1]) hx hb hts hown 6 85 inlX7 tyX7 tyX7_ok nmX7 G rfl rfl (by decide) (by decide) wm_112 rfl hin rfl rfl rfl dX7_init_43 a80 a85 (show _ = WL138 from rfl) (fun H locs G => ?_)
  refine lv_aload_n hx hb dX7_init_46 rfl (lv_at hl 0 rfl) ?_
  refine lv_bipush (v := iz 100) hx hb dX7_init_47 (by decide +kernel) ?_
  refine g_newI (n := 86) hx hb hts G hA rfl (by decide +kernel) wm_49 100 rfl (by decide) (Nat.le_of_ble_eq_true rfl) (Nat.le_of_ble_eq_true rfl) dX7_init_49 (show _ = WL139 from rfl) (fun g x86 H a86 hg G => ?_)
  have a80 := (hg 80 (Nat.le_of_ble_eq_true rfl)).trans a80
  have a81 := (hg 81 (Nat.le_of_ble_eq_true rfl)).trans a81
  have a82 := (hg 82 (Nat.le_of_ble_eq_true rfl)).trans a82
  have a83 := (hg 83 (Nat.le_of_ble_eq_true rfl)).trans a83
  have a84 := (hg 84 (Nat.le_of_ble_eq_true rfl)).trans a84
  have a85 := (hg 85 (Nat.le_of_ble_eq_true rfl)).trans a85
  have E : ∀ k, k < 81 → g k = g0 k := fun k hk => (hg k (Nat.lt_of_lt_of_le hk (Nat.le_of_ble_eq_true rfl))).trans (E k hk)
  refine W.widen (k := 6) (n := 6370) (Nat.le_of_ble_eq_true rfl) (Nat.le_of_ble_eq_true rfl) ?_
  refine g_putF (k := 80) (ci := 7) (cs := [84, 85, 0, 86, 0, 87, 88, 2, 2, 2, 2, 2, 0, 0, 0, 0, 1]) hx hb hts hown 7 86 inlX7 tyX7 tyX7_ok nmX7 G rfl rfl (by decide) (by decide) wm_113 rfl hin rfl rfl rfl dX7_init_51 a80 a86 (show _ = WL140 from rfl) (fun H locs G => ?_)
  refine lv_aload_n hx hb dX7_init_54 rfl (lv_at hl 0 rfl) ?_
  refine lv_bipush (v := iz 100) hx hb dX7_init_55 (by decide +kernel) ?_
  refine g_newI (n := 87) hx hb hts G hA rfl (by decide +kernel) wm_49 100 rfl (by decide) (Nat.le_of_ble_eq_true rfl) (Nat.le_of_ble_eq_true rfl) dX7_init_57 (show _ = WL141 from rfl) (fun g x87 H a87 hg G => ?_)
  have a80 := (hg 80 (Nat.le_of_ble_eq_true rfl)).trans a80
  have a81 := (hg 81 (Nat.le_of_ble_eq_true rfl)).trans a81
  have a82 := (hg 82 (Nat.le_of_ble_eq_true rfl)).trans a82
  have a83 := (hg 83 (Nat.le_of_ble_eq_true rfl)).trans a83
  have a84 := (hg 84 (Nat.le_of_ble_eq_true rfl)).trans a84
  have a85 := (hg 85 (Nat.le_of_ble_eq_true rfl)).trans a85
  have a86 := (hg 86 (Nat.le_of_ble_eq_true rfl)).trans a86
  have E : ∀ k, k < 81 → g k = g0 k := fun k hk => (hg k (Nat.lt_of_lt_of_le hk (Nat.le_of_ble_eq_true rfl))).trans (E k hk)
  refine W.widen (k := 7) (n := 6470) (Nat.le_of_ble_eq_true rfl) (Nat.le_of_ble_eq_true rfl) ?_
  refine g_putF (k := 80) (ci := 7) (cs := [84, 85, 0, 86, 0, 87, 88, 89, 2, 2, 2, 2, 0, 0, 0, 0, 1]) hx hb hts hown 8 87 inlX7 tyX7 tyX7_ok nmX7 G rfl rfl (by decide) (by decide) wm_114 rfl hin rfl rfl rfl dX7_init_59 a80 a87 (show _ = WL142 from rfl) (fun H locs G => ?_)
  refine lv_aload_n hx hb dX7_init_62 rfl (lv_at hl 0 rfl) ?_
  refine lv_bipush (v := iz 100) hx hb dX7_init_63 (by decide +kernel) ?_
  refine g_newI (n := 88) hx hb hts G hA rfl (by decide +kernel) wm_49 100 rfl (by decide) (Nat.le_of_ble_eq_true rfl) (Nat.le_of_ble_eq_true rfl) dX7_init_65 (show _ = WL143 from rfl) (fun g x88 H a88 hg G => ?_)
  have a80 := (hg 80 (Nat.le_of_ble_eq_true rfl)).trans a80
  have a81 := (hg 81 (Nat.le_of_ble_eq_true rfl)).trans a81
  have a82 := (hg 82 (Nat.le_of_ble_eq_true rfl)).trans a82
  have a83 := (hg 83 (Nat.le_of_ble_eq_true rfl)).trans a83
  have a84 := (hg 84 (Nat.le_of_ble_eq_true rfl)).trans a84
  have a85 := (hg 85 (Nat.le_of_ble_eq_true rfl)).trans a85
  have a86 := (hg 86 (Nat.le_of_ble_eq_true rfl)).trans a86
  have a87 := (hg 87 (Nat.le_of_ble_eq_true rfl)).trans a87
  have E : ∀ k, k < 81 → g k = g0 k := fun k hk => (hg k (Nat.lt_of_lt_of_le hk (Nat.le_of_ble_eq_true rfl))).trans (E k hk)
  refine W.widen (k := 8) (n := 6570) (Nat.le_of_ble_eq_true rfl) (Nat.le_of_ble_eq_true rfl) ?_
  refine g_putF (k := 80) (ci := 7) (cs := [84, 85, 0, 86, 0, 87, 88, 89, 90, 2, 2, 2, 0, 0, 0, 0, 1]) hx hb hts hown 9 88 inlX7 tyX7 tyX7_ok nmX7 G rfl rfl (by decide) (by decide) wm_115 rfl hin rfl rfl rfl dX7_init_67 a80 a88 (show _ = WL144 from rfl) (fun H locs G => ?_)
  refine lv_aload_n hx hb dX7_init_70 rfl (lv_at hl 0 rfl) ?_
  refine lv_bipush (v := iz 100) hx hb dX7_init_71 (by decide +kernel) ?_
  refine g_newI (n := 89) hx hb hts G hA rfl (by decide +kernel) wm_49 100 rfl (by decide) (Nat.le_of_ble_eq_true rfl) (Nat.le_of_ble_eq_true rfl) dX7_init_73 (show _ = WL145 from rfl) (fun g x89 H a89 hg G => ?_)
  have a80 := (hg 80 (Nat.le_of_ble_eq_true rfl)).trans a80
  have a81 := (hg 81 (Nat.le_of_ble_eq_true rfl)).trans a81
  have a82 := (hg 82 (Nat.le_of_ble_eq_true rfl)).trans a82
  have a83 := (hg 83 (Nat.le_of_ble_eq_true rfl)).trans a83
  have a84 := (hg 84 (Nat.le_of_ble_eq_true rfl)).trans a84
  have a85 := (hg 85 (Nat.le_of_ble_eq_true rfl)).trans a85
  have a86 := (hg 86 (Nat.le_of_ble_eq_true rfl)).trans a86
  have a87 := (hg 87 (Nat.le_of_ble_eq_true rfl)).trans a87
  have a88 := (hg 88 (Nat.le_of_ble_eq_true rfl)).trans a88
  have E : ∀ k, k < 81 → g k = g0 k := fun k hk => (hg k (Nat.lt_of_lt_of_le hk (Nat.le_of_ble_eq_true rfl))).trans (E k hk)
  refine W.widen (k := 9) (n := 6670) (Nat.le_of_ble_eq_true rfl) (Nat.le_of_ble_eq_true rfl) ?_
  refine g_putF (k := 80) (ci := 7) (cs := [84, 85, 0, 86, 0, 87, 88, 89, 90, 91, 2, 2, 0, 0, 0, 0, 1]) hx hb hts hown 10 89 inlX7 tyX7 tyX7_ok nmX7 G rfl rfl (by decide) (by decide) wm_116 rfl hin rfl rfl rfl dX7_init_75 a80 a89 (show _ = WL146 from rfl) (fun H locs G => ?_)
  refine lv_aload_n hx hb dX7_init_78 rfl (lv_at hl 0 rfl) ?_
  refine lv_bipush (v := iz 100) hx hb dX7_init_79 (by decide +kernel) ?_
  refine g_newI (n := 90) hx hb hts G hA rfl (by decide +kernel) wm_49 100 rfl (by decide) (Nat.le_of_ble_eq_true rfl) (Nat.le_of_ble_eq_true rfl) dX7_init_81 (show _ = WL147 from rfl) (fun g x90 H a90 hg G => ?_)
  have a80 := (hg 80 (Nat.le_of_ble_eq_true rfl)).trans a80
  have a81 := (hg 81 (Nat.le_of_ble_eq_true rfl)).trans a81
  have a82 := (hg 82 (Nat.le_of_ble_eq_true rfl)).trans a82
  have a83 := (hg 83 (Nat.le_of_ble_eq_true rfl)).trans a83
  have a84 := (hg 84 (Nat.le_of_ble_eq_true rfl)).trans a84
  have a85 := (hg 85 (Nat.le_of_ble_eq_true rfl)).trans a85
  have a86 := (hg 86 (Nat.le_of_ble_eq_true rfl)).trans a86
  have a87 := (hg 87 (Nat.le_of_ble_eq_true rfl)).trans a87
  have a88 := (hg 88 (Nat.le_of_ble_eq_true rfl)).trans a88
  have a89 := (hg 89 (Nat.le_of_ble_eq_true rfl)).trans a89
  have E : ∀ k, k < 81 → g k = g0 k := fun k hk => (hg k (Nat.lt_of_lt_of_le hk (Nat.le_of_ble_eq_true rfl))).trans (E k hk)
  refine W.widen (k := 10) (n := 6770) (Nat.le_of_ble_eq_true rfl) (Nat.le_of_ble_eq_true rfl) ?_
  refine g_putF (k := 80) (ci := 7) (cs := [84, 85, 0, 86, 0, 87, 88, 89, 90, 91, 92, 2, 0, 0, 0, 0, 1]) hx hb hts hown 11 90 inlX7 tyX7 tyX7_ok nmX7 G rfl rfl (by decide) (by decide) wm_117 rfl hin rfl rfl rfl dX7_init_83 a80 a90 (show _ = gSL from rfl) (fun H locs G => ?_)
  refine lv_iconst (v := iz 0) hx hb dX7_init_86 rfl ?_
  refine lv_istore_n (lv' := [(1, .int (iz 0)), (0, .ref x80)]) hx hb dX7_init_87 rfl hl (by decide) rfl (fun ls hl => ?_)
  refine lv_iload_n hx hb dX7_init_88 rfl (lv_at hl 0 rfl) ?_
  refine lv_bipush (v := iz 6) hx hb dX7_init_89 (by decide +kernel) ?_
  refine g_icmp_ge (tgt := 111) hx hb ⟨by decide, by decide⟩ ⟨by decide, by decide⟩ dX7_init_91 (by decide) (fun q => absurd q (by decide)) (fun _ => ?_)
  refine lv_aload_n hx hb dX7_init_94 rfl (lv_at hl 1 rfl) ?_
  refine g_getA (k := 80) (ci := 7) (cs := [84, 85, 0, 86, 0, 87, 88, 89, 90, 91, 92, 93, 0, 0, 0, 0, 1]) hx hb hts hown 0 81 inlX7 G rfl rfl (by decide) rfl wm_108 dX7_init_95 a80 a81 ?_
  refine lv_sipush (v := iz 155) hx hb dX7_init_98 (by decide +kernel) ?_
  refine lv_iload_n hx hb dX7_init_101 rfl (lv_at hl 0 rfl) ?_
  refine g_iadd hx hb dX7_init_102 ?_
  refine W.eq (g2 := F0 m 103 ls [.int (iz 155), .ref x81]) rfl ?_
  refine lv_iconst (v := iz (-1)) hx hb dX7_init_103 rfl ?_
  refine g_astA (k := 81) (N := 161) (cs := []) (i := 155) (x := (-1)) hx hb G rfl (by decide) (by decide) (by decide) dX7_init_104 a81 (fun H locs G => ?_)
  refine g_iinc (k := 0) (x := 0) (n := 1) (lv' := [(1, .int (iz 1)), (0, .ref x80)]) hx hb dX7_init_105 hl rfl (by decide) rfl (fun ls hl => ?_)
  refine lv_goto (tgt := 88) hx hb dX7_init_108 (by decide) ?_
  refine lv_iload_n hx hb dX7_init_88 rfl (lv_at hl 0 rfl) ?_
  refine lv_bipush (v := iz 6) hx hb dX7_init_89 (by decide +kernel) ?_
  refine g_icmp_ge (tgt := 111) hx hb ⟨by decide, by decide⟩ ⟨by decide, by decide⟩ dX7_init_91 (by decide) (fun q => absurd q (by decide)) (fun _ => ?_)
  refine lv_aload_n hx hb dX7_init_94 rfl (lv_at hl 1 rfl) ?_
  refine g_getA (k := 80) (ci := 7) (cs := [84, 85, 0, 86, 0, 87, 88, 89, 90, 91, 92, 93, 0, 0, 0, 0, 1]) hx hb hts hown 0 81 inlX7 G rfl rfl (by decide) rfl wm_108 dX7_init_95 a80 a81 ?_
  refine lv_sipush (v := iz 155) hx hb dX7_init_98 (by decide +kernel) ?_
  refine lv_iload_n hx hb dX7_init_101 rfl (lv_at hl 0 rfl) ?_
  refine g_iadd hx hb dX7_init_102 ?_
  refine W.eq (g2 := F0 m 103 ls [.int (iz 156), .ref x81]) rfl ?_
  refine lv_iconst (v := iz (-1)) hx hb dX7_init_103 rfl ?_
  refine g_astA (k := 81) (N := 161) (cs := []) (i := 156) (x := (-1)) hx hb G rfl (by decide) (by decide) (by decide) dX7_init_104 a81 (fun H locs G => ?_)
  refine g_iinc (k := 0) (x := 1) (n := 1) (lv' := [(1, .int (iz 2)), (0, .ref x80)]) hx hb dX7_init_105 hl rfl (by decide) rfl (fun ls hl => ?_)
  refine lv_goto (tgt := 88) hx hb dX7_init_108 (by decide) ?_
  refine lv_iload_n hx hb dX7_init_88 rfl (lv_at hl 0 rfl) ?_
  refine lv_bipush (v := iz 6) hx hb dX7_init_89 (by decide +kernel) ?_
  refine g_icmp_ge (tgt := 111) hx hb ⟨by decide, by decide⟩ ⟨by decide, by decide⟩ dX7_init_91 (by decide) (fun q => absurd q (by decide)) (fun _ => ?_)
  refine lv_aload_n hx hb dX7_init_94 rfl (lv_at hl 1 rfl) ?_
  refine g_getA (k := 80) (ci := 7) (cs := [84, 85, 0, 86, 0, 87, 88, 89, 90, 91, 92, 93, 0, 0, 0, 0, 1]) hx hb hts hown 0 81 inlX7 G rfl rfl (by decide) rfl wm_108 dX7_init_95 a80 a81 ?_
  refine lv_sipush (v := iz 155) hx hb dX7_init_98 (by decide +kernel) ?_
  refine lv_iload_n hx hb dX7_init_101 rfl (lv_at hl 0 rfl) ?_
  refine g_iadd hx hb dX7_init_102 ?_
  refine W.eq (g2 := F0 m 103 ls [.int (iz 157), .ref x81]) rfl ?_
  refine lv_iconst (v := iz (-1)) hx hb dX7_init_103 rfl ?_
  refine g_astA (k := 81) (N := 161) (cs := []) (i := 157) (x := (-1)) hx hb G rfl (by decide) (by decide) (by decide) dX7_init_104 a81 (fun H locs G => ?_)
  refine g_iinc (k := 0) (x := 2) (n := 1) (lv' := [(1, .int (iz 3)), (0, .ref x80)]) hx hb dX7_init_105 hl rfl (by decide) rfl (fun ls hl => ?_)
  refine lv_goto (tgt := 88) hx hb dX7_init_108 (by decide) ?_
  refine lv_iload_n hx hb dX7_init_88 rfl (lv_at hl 0 rfl) ?_
  refine lv_bipush (v := iz 6) hx hb dX7_init_89 (by decide +kernel) ?_
  refine g_icmp_ge (tgt := 111) hx hb ⟨by decide, by decide⟩ ⟨by decide, by decide⟩ dX7_init_91 (by decide) (fun q => absurd q (by decide)) (fun _ => ?_)
  refine lv_aload_n hx hb dX7_init_94 rfl (lv_at hl 1 rfl) ?_
  refine g_getA (k := 80) (ci := 7) (cs := [84, 85, 0, 86, 0, 87, 88, 89, 90, 91, 92, 93, 0, 0, 0, 0, 1]) hx hb hts hown 0 81 inlX7 G rfl rfl (by decide) rfl wm_108 dX7_init_95 a80 a81 ?_
  refine lv_sipush (v := iz 155) hx hb dX7_init_98 (by decide +kernel) ?_
  refine lv_iload_n hx hb dX7_init_101 rfl (lv_at hl 0 rfl) ?_
  refine g_iadd hx hb dX7_init_102 ?_
  refine W.eq (g2 := F0 m 103 ls [.int (iz 158), .ref x81]) rfl ?_
  refine lv_iconst (v := iz (-1)) hx hb dX7_init_103 rfl ?_
  refine g_astA (k := 81) (N := 161) (cs := []) (i := 158) (x := (-1)) hx hb G rfl (by decide) (by decide) (by decide) dX7_init_104 a81 (fun H locs G => ?_)
  refine g_iinc (k := 0) (x := 3) (n := 1) (lv' := [(1, .int (iz 4)), (0, .ref x80)]) hx hb dX7_init_105 hl rfl (by decide) rfl (fun ls hl => ?_)
  refine lv_goto (tgt := 88) hx hb dX7_init_108 (by decide) ?_
  refine lv_iload_n hx hb dX7_init_88 rfl (lv_at hl 0 rfl) ?_
  refine lv_bipush (v := iz 6) hx hb dX7_init_89 (by decide +kernel) ?_
  refine g_icmp_ge (tgt := 111) hx hb ⟨by decide, by decide⟩ ⟨by decide, by decide⟩ dX7_init_91 (by decide) (fun q => absurd q (by decide)) (fun _ => ?_)
  refine lv_aload_n hx hb dX7_init_94 rfl (lv_at hl 1 rfl) ?_
  refine g_getA (k := 80) (ci := 7) (cs := [84, 85, 0, 86, 0, 87, 88, 89, 90, 91, 92, 93, 0, 0, 0, 0, 1]) hx hb hts hown 0 81 inlX7 G rfl rfl (by decide) rfl wm_108 dX7_init_95 a80 a81 ?_
  refine lv_sipush (v := iz 155) hx hb dX7_init_98 (by decide +kernel) ?_
  refine lv_iload_n hx hb dX7_init_101 rfl (lv_at hl 0 rfl) ?_
  refine g_iadd hx hb dX7_init_102 ?_
  refine W.eq (g2 := F0 m 103 ls [.int (iz 159), .ref x81]) rfl ?_
  refine lv_iconst (v := iz (-1)) hx hb dX7_init_103 rfl ?_
  refine g_astA (k := 81) (N := 161) (cs := []) (i := 159) (x := (-1)) hx hb G rfl (by decide) (by decide) (by decide) dX7_init_104 a81 (fun H locs G => ?_)
  refine g_iinc (k := 0) (x := 4) (n := 1) (lv' := [(1, .int (iz 5)), (0, .ref x80)]) hx hb dX7_init_105 hl rfl (by decide) rfl (fun ls hl => ?_)
  refine lv_goto (tgt := 88) hx hb dX7_init_108 (by decide) ?_
  refine lv_iload_n hx hb dX7_init_88 rfl (lv_at hl 0 rfl) ?_
  refine lv_bipush (v := iz 6) hx hb dX7_init_89 (by decide +kernel) ?_
  refine g_icmp_ge (tgt := 111) hx hb ⟨by decide, by decide⟩ ⟨by decide, by decide⟩ dX7_init_91 (by decide) (fun q => absurd q (by decide)) (fun _ => ?_)
  refine lv_aload_n hx hb dX7_init_94 rfl (lv_at hl 1 rfl) ?_
  refine g_getA (k := 80) (ci := 7) (cs := [84, 85, 0, 86, 0, 87, 88, 89, 90, 91, 92, 93, 0, 0, 0, 0, 1]) hx hb hts hown 0 81 inlX7 G rfl rfl (by decide) rfl wm_108 dX7_init_95 a80 a81 ?_
  refine lv_sipush (v := iz 155) hx hb dX7_init_98 (by decide +kernel) ?_
  refine lv_iload_n hx hb dX7_init_101 rfl (lv_at hl 0 rfl) ?_
  refine g_iadd hx hb dX7_init_102 ?_
  refine W.eq (g2 := F0 m 103 ls [.int (iz 160), .ref x81]) rfl ?_
  refine lv_iconst (v := iz (-1)) hx hb dX7_init_103 rfl ?_
  refine g_astA (k := 81) (N := 161) (cs := []) (i := 160) (x := (-1)) hx hb G rfl (by decide) (by decide) (by decide) dX7_init_104 a81 (fun H locs G => ?_)
  refine g_iinc (k := 0) (x := 5) (n := 1) (lv' := [(1, .int (iz 6)), (0, .ref x80)]) hx hb dX7_init_105 hl rfl (by decide) rfl (fun ls hl => ?_)
  refine lv_goto (tgt := 88) hx hb dX7_init_108 (by decide) ?_
  refine lv_iload_n hx hb dX7_init_88 rfl (lv_at hl 0 rfl) ?_
  refine lv_bipush (v := iz 6) hx hb dX7_init_89 (by decide +kernel) ?_
  refine g_icmp_ge (tgt := 111) hx hb ⟨by decide, by decide⟩ ⟨by decide, by decide⟩ dX7_init_91 (by decide) (fun _ => ?_) (fun q => absurd (by decide) q)
  exact g_cret (n0 := 81) hx hb hr hlk rfl hz E G (Nat.le_of_ble_eq_true rfl) (Nat.le_of_ble_eq_true rfl) dX7_init_111
