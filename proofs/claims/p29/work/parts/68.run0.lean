-- the law over a script of less than three ints
def lwE (mc ms : Nat) (below : List Frame) (s : State) (X : State → Prop) : State → Prop := fun t => ∃ o, t.status = .running ∧ Ended t below o ∧ o = .returned (some (.int 1)) ∧ Framed s o t [] mc ms ∧ X t
def lwA (p : Program) (s : State) (m : MethodId) (meth : Method) (c : Code) (b L : Nat) (xs : Nat → Int32) : Prop :=
  p.tables.exec = Jvm.exec ∧ c.code = code ∧ meth.sig.returnType = ret ∧ c.maxLocals = 4 ∧ s.vm.findClass RL = some m.cls ∧ (∀ w ∈ lw_tbl, w.before #[Value.ref b] s = true) ∧ va_X b L xs s s.heap ∧ b < s.heap.size ∧ meth.locks = false
abbrev lwF (s : State) : Nat → Prop := fun q => s.heap.size ≤ q
theorem g_lend {p : Program} {l : Launch} {e : Env} {R : Room} {s : State} {m : MethodId} {below : List Frame} {meth : Method} {c : Code} {b mc ms : Nat} {X : State → Prop} (hx : p.tables.exec = Jvm.exec) (hb : c.code = code) (hr : meth.sig.returnType = ret) (hlocks : meth.locks = false) {pc : Nat} {H : Heap} {ls : Array Slot} (hX : ∀ t : State, t.heap = H → X t) (hdg : decode code pc = .ok (.ireturn, 1)) : W p l e R s m #[Value.ref b] below meth c H [] mc ms (lwE mc ms below s X) (F0 m pc ls [.int 1]) := by
  intro T hT X
  obtain ⟨fs, hret, hrun, hended, hW, hframe⟩ := X.leave (v := some (.int 1)) (hlocks := hlocks) (fun h => by rw [hr] at h; cases h)
  have hmeth' : T.vm.method? m = some meth := X.method'
  refine ⟨T.setFrames fs, ?_, .returned (some (.int 1)), hrun, hended, rfl, ⟨⟨_, rfl⟩, hW, hframe⟩, hX _ hT⟩
  jvm_step X.here [X.here.top, hx, hb, hdg, hmeth', hr, ret, narrow_b1]
  (try refine ⟨rfl, ?_⟩); (try refine ⟨rfl, ?_⟩)
  first | (intro acts; rw [hret _ acts rfl rfl rfl]) | rw [hret _ _ rfl rfl rfl]
  exact Steps.refl _
-- the start: what the constructors leave
def sg_start (σ : St) : St := sg_Model_80 (ur (sg_Grammar_0 (ur σ 0 (fun _ => 0))) 80 (fun _ => 0))
set_option maxHeartbeats 4000000 in
set_option maxRecDepth 100000 in
/-- the whole run over a script of less than three ints: both constructors, and the end -/
theorem law_run0 {p : Program} {l : Launch} {e : Env} {R : Room} {s : State} {m : MethodId} {below : List Frame} {meth : Method} {c : Code} {b L : Nat} {xs : Nat → Int32} (hF : 9 ≤ R.frames) (hLo : 207 ≤ R.locals) (hcs : 91 ≤ R.cells ∧ 14351 ≤ R.slots) (hL : L < 3) (C0 : lwA p s m meth c b L xs) {X : State → Prop} (hXt : ∀ (w : GW) (σ : St) (H : Heap) (locs : List Loc), gS w gSL σ (lwF s) s s.heap H locs → ∀ t : State, t.heap = H → X t) : W p l e R s m #[Value.ref b] below meth c s.heap [] 0 0 (lwE 91 14351 below s X) (entryFrame m ([Value.ref b] : List Value).toArray 4) := by
  obtain ⟨hx, hb, hr, hml, hown, hts, hX, hbl, hlk⟩ := id C0
  have htsW : ∀ w ∈ wsL_law, w.before #[Value.ref b] s = true := fun w h => hts w (wsL_in w h)
  have hNw : gNw s := gNw_of hts
  have hA : ∀ q, s.heap.size ≤ q → lwF s q := fun _ h => h
  have hbA : ¬ lwF s b := Nat.not_le.mpr hbl
  have hao : aoS s := va_AO.of (hts _ t_ao)
  obtain ⟨c0, i0, k0⟩ := u_known (C := RX0) (T := TX0) (N := 1) (n := 1) htsW inlX0 (htsW _ wm_73)
  obtain ⟨c1, i1, k1⟩ := u_known (C := RX1) (T := TX1) (N := 3) (n := 3) htsW inlX1 (htsW _ wm_17)
  obtain ⟨c2, i2, k2⟩ := u_known (C := RX2) (T := TX2) (N := 5) (n := 5) htsW inlX2 (htsW _ wm_26)
  obtain ⟨c3, i3, k3⟩ := u_known (C := RX3) (T := TX3) (N := 16) (n := 16) htsW inlX3 (htsW _ wm_30)
  obtain ⟨c4, i4, k4⟩ := u_known (C := RX4) (T := TX4) (N := 1) (n := 1) htsW inlX4 (htsW _ wm_21)
  obtain ⟨c5, i5, k5⟩ := u_known (C := RX5) (T := TX5) (N := 5) (n := 5) htsW inlX5 (htsW _ wm_13)
  obtain ⟨c6, i6, k6⟩ := u_known (C := RX6) (T := TX6) (N := 8) (n := 8) htsW inlX6 (htsW _ wm_1)
  obtain ⟨c7, i7, k7⟩ := u_known (C := RX7) (T := TX7) (N := 17) (n := 17) htsW inlX7 (htsW _ wm_4)
  obtain ⟨cI, kI, cmI, fI1, fI2, fI3⟩ := Cond.arrayClass_spec (htsW _ wm_49)
  obtain ⟨cmS, cS, kS, fS1, fS2, fS3, fS4, fS5⟩ := Cond.arrayOver_spec (hts _ t_ao)
  obtain ⟨w, hw2, hw3, hwK⟩ : ∃ w : GW, w.2.1 = cI ∧ w.2.2.1 = cS ∧ ∀ (k : Nat) (q : vw_C), vwCl[k]? = some q → u_Kn s q.1 q.2.1 q.2.2 (w.1.1 k) (w.1.2 k) := by
    refine ⟨((fun k => ([c0, c1, c2, c3, c4, c5, c6, c7] : List ClassId).getD k c0, fun k => ([i0, i1, i2, i3, i4, i5, i6, i7] : List (Nat → Nat)).getD k i0), cI, cS, fun _ => 0), rfl, rfl, ?_⟩
    intro k q hq
    match k, hq with
    | 0, hq => cases hq; exact k0
    | 1, hq => cases hq; exact k1
    | 2, hq => cases hq; exact k2
    | 3, hq => cases hq; exact k3
    | 4, hq => cases hq; exact k4
    | 5, hq => cases hq; exact k5
    | 6, hq => cases hq; exact k6
    | 7, hq => cases hq; exact k7
    | k + 8, hq => simp [vwCl] at hq
  have hK : va_K w.1 vwCl (gT w) s := ⟨hwK, fun k q hq => by
    match k, hq with
    | 0, hq =>
      cases hq
      rw [hw2]
      exact ⟨fun n z => ⟨fun k h => (by cases h), kI, fI2, cmI, fI3⟩, fI1⟩
    | 1, hq =>
      cases hq
      rw [hw3]
      exact ⟨fun n z => ⟨fun k h => (by cases h), kS, fS3, cmS, fS4⟩, kS, cmS, fS3, fS4, fS1, fS5⟩
    | k + 2, hq => simp [gT] at hq⟩
  obtain ⟨g, hgd⟩ : ∃ g : Nat → Nat, g = gad w := ⟨_, rfl⟩
  have G : gS (gw w g) [] (fun _ _ => 0) (lwF s) s s.heap s.heap [] := ⟨hK, fun k q h => by simp [gW] at h, ⟨fun i j p q h => by simp [gW] at h, fun k q h => by simp [gW] at h⟩, va_S.rf⟩
  have hl := lv_entry ([.ref b]) (n := 4) (Nat.le_of_ble_eq_true rfl)
  rw [lg_entry_eq]
  generalize (lg_sl ([.ref b]) ++ List.replicate (4 - (lg_sl ([.ref b])).length) Slot.unset).toArray = ls at hl ⊢
  have hl : lv_has ls 4 [(0, .ref b)] := hl
  refine g_newO (n := 0) (ci := 6) (C := RX6) (T := TX6) (N := 8) hx hb htsW hown [2, 2, 2, 2, 2, 2, 0, 0] inlX6 tyX6 tyX6_ok G hA rfl (by decide +kernel) rfl (fun j hj => by rcases (show j = 0 ∨ j = 1 ∨ j = 2 ∨ j = 3 ∨ j = 4 ∨ j = 5 ∨ j = 6 ∨ j = 7 by omega) with rfl | rfl | rfl | rfl | rfl | rfl | rfl | rfl <;> rfl) (by decide) wm_0 wm_1 wm_2 (Nat.le_trans (Nat.le_of_ble_eq_true rfl) hcs.1) (Nat.le_trans (Nat.le_of_ble_eq_true rfl) hcs.2) dL_law_0 (show _ = WL0 from rfl) (fun g x0 H a0 hg G => ?_)
  refine W.widen (k := 1) (n := 8) (Nat.le_of_ble_eq_true rfl) (Nat.le_of_ble_eq_true rfl) ?_
  refine lv_dup hx hb dL_law_3 rfl ?_
  refine g_callC (n := 0) (rest := [.ref x0]) (n0 := 1) hx hb hml htsW hown hNw hao hA G [] (cc_Grammar_0 l w _ _ _ x0 a0) rfl wm_6 wm_7 wm_2 wm_8 rfl ⟨by decide +kernel, by decide +kernel, by decide +kernel⟩ ⟨rfl, rfl, Nat.le_trans (show 4 + 1 ≤ 9 from (Nat.le_of_ble_eq_true rfl)) hF, Nat.le_trans (show 8 + (1 + 11) + 73 ≤ 207 from (Nat.le_of_ble_eq_true rfl)) hLo⟩ rfl hl.1 (Nat.le_of_ble_eq_true rfl) rfl dL_law_4 ⟨Nat.le_trans (Nat.le_of_ble_eq_true rfl) hcs.1, Nat.le_trans (Nat.le_of_ble_eq_true rfl) hcs.2⟩ (fun g H locs hg G => ?_)
  have a0 := (hg 0 (Nat.le_of_ble_eq_true rfl)).trans a0
  refine W.widen (k := 80) (n := 7564) (Nat.le_of_ble_eq_true rfl) (Nat.le_of_ble_eq_true rfl) ?_
  refine lv_astore_n (lv' := [(1, .ref x0), (0, .ref b)]) hx hb dL_law_7 rfl hl (by decide) rfl (fun ls hl => ?_)
  refine g_newO (n := 80) (ci := 7) (C := RX7) (T := TX7) (N := 17) hx hb htsW hown [2, 2, 0, 2, 0, 2, 2, 2, 2, 2, 2, 2, 0, 0, 0, 0, 1] inlX7 tyX7 tyX7_ok G hA rfl (by decide +kernel) rfl (fun j hj => by rcases (show j = 0 ∨ j = 1 ∨ j = 2 ∨ j = 3 ∨ j = 4 ∨ j = 5 ∨ j = 6 ∨ j = 7 ∨ j = 8 ∨ j = 9 ∨ j = 10 ∨ j = 11 ∨ j = 12 ∨ j = 13 ∨ j = 14 ∨ j = 15 ∨ j = 16 by omega) with rfl | rfl | rfl | rfl | rfl | rfl | rfl | rfl | rfl | rfl | rfl | rfl | rfl | rfl | rfl | rfl | rfl <;> rfl) (by decide) wm_3 wm_4 wm_5 (Nat.le_trans (Nat.le_of_ble_eq_true rfl) hcs.1) (Nat.le_trans (Nat.le_of_ble_eq_true rfl) hcs.2) dL_law_8 (show _ = WL128 from rfl) (fun g x80 H a80 hg G => ?_)
  have a0 := (hg 0 (Nat.le_of_ble_eq_true rfl)).trans a0
  refine W.widen (k := 81) (n := 7581) (Nat.le_of_ble_eq_true rfl) (Nat.le_of_ble_eq_true rfl) ?_
  refine lv_dup hx hb dL_law_11 rfl ?_
  refine g_callC (n := 0) (rest := [.ref x80]) (n0 := 81) hx hb hml htsW hown hNw hao hA G [] (cc_Model_80 l w _ _ _ x80 a80) rfl wm_104 wm_105 wm_5 wm_106 rfl ⟨by decide +kernel, by decide +kernel, by decide +kernel⟩ ⟨rfl, rfl, Nat.le_trans (show 1 + 1 ≤ 9 from (Nat.le_of_ble_eq_true rfl)) hF, Nat.le_trans (show 8 + (2 + 11) + 12 ≤ 207 from (Nat.le_of_ble_eq_true rfl)) hLo⟩ rfl hl.1 (Nat.le_of_ble_eq_true rfl) rfl dL_law_12 ⟨Nat.le_trans (Nat.le_of_ble_eq_true rfl) hcs.1, Nat.le_trans (Nat.le_of_ble_eq_true rfl) hcs.2⟩ (fun g H locs hg G => ?_)
  have a0 := (hg 0 (Nat.le_of_ble_eq_true rfl)).trans a0
  have a80 := (hg 80 (Nat.le_of_ble_eq_true rfl)).trans a80
  refine W.widen (k := 91) (n := 14351) (Nat.le_of_ble_eq_true rfl) (Nat.le_of_ble_eq_true rfl) ?_
  refine lv_astore_n (lv' := [(2, .ref x80), (1, .ref x0), (0, .ref b)]) hx hb dL_law_15 rfl hl (by decide) rfl (fun ls hl => ?_)
  refine lv_iconst (v := iz 0) hx hb dL_law_16 rfl ?_
  refine lv_istore_n (lv' := [(3, .int (iz 0)), (2, .ref x80), (1, .ref x0), (0, .ref b)]) hx hb dL_law_17 rfl hl (by decide) rfl (fun ls hl => ?_)
  have e0 : x0 = gad (gw w g) 0 := a0.symm
  have e80 : x80 = gad (gw w g) 80 := a80.symm
  rw [e0, e80] at hl
  refine lv_iload_n hx hb dL_law_18 rfl (lv_at hl 0 rfl) ?_
  refine lv_aload_n hx hb dL_law_19 rfl (lv_at hl 3 rfl) ?_
  refine va_slen hx hb hX hbl hbA G.2.2.2 dL_law_20 ?_
  rw [show Int32.ofNat L = iz (L : Int) from Int32.ofInt_eq_ofNat.symm]
  refine lv_iconst (v := iz 3) hx hb dL_law_21 rfl ?_
  refine g_isub hx hb dL_law_22 ?_
  refine g_icmp_gt (tgt := 791) hx hb ⟨by omega, by omega⟩ ⟨by omega, by omega⟩ dL_law_23 (by decide) (fun q => ?_) (fun q => ?_)
  · refine lv_iconst (v := 1) hx hb dL_law_791 rfl ?_
    refine va_forget (fun q h => G.2.2.2.2.2 q h) ?_
    exact g_lend hx hb hr hlk (fun t ht => hXt (gw w g) _ H _ G t ht) dL_law_792
  · exact absurd (show (L : Int) - 3 < 0 by omega) q
