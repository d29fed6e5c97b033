-- the start: what the constructors leave
def sg_start (σ : St) : St := sg_Model_80 (ur (sg_Grammar_0 (ur σ 0 (fun _ => 0))) 80 (fun _ => 0))
set_option maxRecDepth 100000 in
set_option maxHeartbeats 4000000 in
theorem sg_z (σ : St) : (sg_start σ 1 = ui (fun _ => 0) 4 0) ∧ (sg_start σ 5 = fun _ => 0) ∧ (sg_start σ 54 = fun _ => 0) ∧ (sg_start σ 56 = fun _ => 0) ∧ (sg_start σ 58 = fun _ => 0) ∧ (sg_start σ 60 = fun _ => 0) ∧ (sg_start σ 85 = fun _ => 0) ∧ (sg_start σ 49 = fun _ => 0) ∧ (sg_start σ 83 = fun _ => 0) ∧ (sg_start σ 51 = fun _ => 0) ∧ (sg_start σ 84 = fun _ => 0) ∧ (sg_start σ 80 = fun _ => 0) ∧ (sg_start σ 10 1 = 0 ∧ sg_start σ 10 2 = 0) ∧ (sg_start σ 0 6 = 0 ∧ sg_start σ 0 7 = 1) ∧ (sg_start σ 9 = fun j => if 0 ≤ j ∧ j < ((6 : Nat) : Int) then -1 else 0) ∧ (sg_start σ 81 = ui (ui (ui (ui (ui (ui (fun _ => 0) 155 (-1)) 156 (-1)) 157 (-1)) 158 (-1)) 159 (-1)) 160 (-1)) :=
  ⟨rfl, rfl, rfl, rfl, rfl, rfl, rfl, rfl, rfl, rfl, rfl, rfl, ⟨rfl, rfl⟩, ⟨rfl, rfl⟩, rfl, rfl⟩
theorem Inv_start (σ : St) : Inv 0 (sg_start σ) := by
  obtain ⟨z1, z5, z54, z56, z58, z60, z85, z49, z83, z51, z84, z80, ⟨z101, z102⟩, ⟨z06, z07⟩, z9, z81⟩ := sg_z σ
  have e14 : sg_start σ 1 4 = 0 := by rw [z1, ui_s]
  have m81 : ∀ j, j < 155 → sg_start σ 81 j = 0 := fun j a => by rw [z81, ui_n _ _ (by omega), ui_n _ _ (by omega), ui_n _ _ (by omega), ui_n _ _ (by omega), ui_n _ _ (by omega), ui_n _ _ (by omega)]
  have s81 : ∀ r, 0 ≤ r → r < 6 → sg_start σ 81 (155 + r) = -1 := fun r a b => by
    rw [z81]
    rcases (show r = 0 ∨ r = 1 ∨ r = 2 ∨ r = 3 ∨ r = 4 ∨ r = 5 by omega) with h | h | h | h | h | h <;> subst h <;> decide
  refine ⟨IG_of ⟨by rw [e14]; exact ⟨by decide, by decide⟩, by rw [m81 0 (by decide), e14], fun p a b => by rw [e14] at b; omega⟩ (fun r a b => ?_), ⟨by rw [z06]; exact ⟨by decide, by decide⟩, by rw [z80, z06], fun j a b => ?_⟩, fun j a b => ?_, ⟨⟨by rw [z101]; exact ⟨by decide, by decide⟩, by rw [z102]; exact ⟨by decide, by decide⟩, by rw [z80, z102]⟩, fun i a b => by rw [z102] at b; omega⟩, ?_, ?_, Or.inr z07, fun z => by rw [z07] at z; omega⟩
  · have e9 : sg_start σ 9 r = -1 := by rw [z9]; exact if_pos ⟨a, b⟩
    have e5 : sg_start σ 5 r = 0 := by rw [z5]
    refine ⟨⟨by rw [e5]; exact ⟨by decide, by decide⟩, by rw [m81 (101 + r) (by omega), e5]⟩, ⟨Or.inl e9, by rw [s81 r a b, e9]⟩, fun i c d => by rw [e5] at d; omega, fun c => by rw [e5] at c; omega⟩
  · rw [z83, z49, z06]
    exact ⟨rfl, ⟨(show (0 : Int) ≤ 0 from by decide), (show (0 : Int) ≤ 126 from by decide)⟩, fun c => by omega⟩
  · rw [z84, z51]
    exact ⟨rfl, (show (0 : Int) ≤ 0 from by decide), (show (0 : Int) ≤ 0 from by decide)⟩
  · unfold MB
    rw [z54, z56, z58, z60]
    exact ⟨fun _ => ⟨(show (-1 : Int) ≤ 0 from by decide), (show (0 : Int) ≤ 100 from by decide)⟩, fun _ => ⟨(show (-1 : Int) ≤ 0 from by decide), (show (0 : Int) ≤ 100 from by decide)⟩, fun _ => ⟨(show (-1 : Int) ≤ 0 from by decide), (show (0 : Int) ≤ 5 from by decide)⟩, fun _ => ⟨(show (-1 : Int) ≤ 0 from by decide), (show (0 : Int) ≤ 100 from by decide)⟩⟩
  · unfold M8
    rw [z85]
    exact fun _ => ⟨(show (-1 : Int) ≤ 0 from by decide), (show (0 : Int) ≤ 100 from by decide)⟩
set_option maxHeartbeats 4000000 in
set_option maxRecDepth 100000 in
/-- the whole run, in a room of at least 91 cells and 14351 slots -/
theorem law_run {p : Program} {l : Launch} {e : Env} {R : Room} {s : State} {m : MethodId} {below : List Frame} {meth : Method} {c : Code} {b L : Nat} {xs : Nat → Int32} (hF : 9 ≤ R.frames) (hLo : 207 ≤ R.locals) (hcs : 91 ≤ R.cells ∧ 14351 ≤ R.slots) (hL : L ≤ 1536) (C0 : lwA p s m meth c b L xs) {X : State → Prop} (hXt : ∀ (w : GW) (σ : St) (H : Heap) (locs : List Loc), gS w gSL σ (lwF s) s s.heap H locs → ∀ t : State, t.heap = H → X t) : W p l e R s m #[Value.ref b] below meth c s.heap [] 0 0 (lwE 91 14351 below s X) (entryFrame m ([Value.ref b] : List Value).toArray 4) := by
  obtain ⟨hx, hb, hr, hml, hown, hts, hX, hbl, hlk⟩ := id C0
  have htsW : ∀ w ∈ wsL_law, w.before #[Value.ref b] s = true := fun w h => hts w (wsL_in w h)
  have hNw : gNw s := gNw_of hts
  have hA : ∀ q, s.heap.size ≤ q → lwF s q := fun _ h => h
  have hbA : ¬ lwF s b := Nat.not_le.mpr hbl
  have hao : aoS s := va_AO.of (hts _ t_ao)
  obtain ⟨c0, i0, k0⟩ := u_known (C := RX0) (T := TX0) (N := 1) (n := 1) htsW inlX0 (htsW _ wm_73)
  obtain ⟨c1, i1, k1⟩ := u_known (C := RX1) (T := TX1) (N := 3) (n := 3) htsW inlX1 (htsW _ wm_17)
  obtain ⟨c2, i2, k2⟩ := u_known (C := RX2) (T := TX2) (N := 5) (n := 5) htsW inlX2 (htsW _ wm_26)
  obtain ⟨c3, i3, k3⟩ := u_known (C := RX3) (T := TX3) (N := 16) (n := 16) htsW inlX3 (htsW _ wm_30)
  obtain ⟨c4, i4, k4⟩ := u_known (C := RX4) (T := TX4) (N := 1) (n := 1) htsW inlX4 (htsW _ wm_21)
  obtain ⟨c5, i5, k5⟩ := u_known (C := RX5) (T := TX5) (N := 5) (n := 5) htsW inlX5 (htsW _ wm_13)
  obtain ⟨c6, i6, k6⟩ := u_known (C := RX6) (T := TX6) (N := 8) (n := 8) htsW inlX6 (htsW _ wm_1)
  obtain ⟨c7, i7, k7⟩ := u_known (C := RX7) (T := TX7) (N := 17) (n := 17) htsW inlX7 (htsW _ wm_4)
  obtain ⟨cI, kI, cmI, fI1, fI2, fI3⟩ := Cond.arrayClass_spec (htsW _ wm_49)
  obtain ⟨cmS, cS, kS, fS1, fS2, fS3, fS4, fS5⟩ := Cond.arrayOver_spec (hts _ t_ao)
  obtain ⟨w, hw2, hw3, hwK⟩ : ∃ w : GW, w.2.1 = cI ∧ w.2.2.1 = cS ∧ ∀ (k : Nat) (q : vw_C), vwCl[k]? = some q → u_Kn s q.1 q.2.1 q.2.2 (w.1.1 k) (w.1.2 k) := by
    refine ⟨((fun k => ([c0, c1, c2, c3, c4, c5, c6, c7] : List ClassId).getD k c0, fun k => ([i0, i1, i2, i3, i4, i5, i6, i7] : List (Nat → Nat)).getD k i0), cI, cS, fun _ => 0), rfl, rfl, ?_⟩
    intro k q hq
    match k, hq with
    | 0, hq => cases hq; exact k0
    | 1, hq => cases hq; exact k1
    | 2, hq => cases hq; exact k2
    | 3, hq => cases hq; exact k3
    | 4, hq => cases hq; exact k4
    | 5, hq => cases hq; exact k5
    | 6, hq => cases hq; exact k6
    | 7, hq => cases hq; exact k7
    | k + 8, hq => simp [vwCl] at hq
  have hK : va_K w.1 vwCl (gT w) s := ⟨hwK, fun k q hq => by
    match k, hq with
    | 0, hq =>
      cases hq
      rw [hw2]
      exact ⟨fun n z => ⟨fun k h => (by cases h), kI, fI2, cmI, fI3⟩, fI1⟩
    | 1, hq =>
      cases hq
      rw [hw3]
      exact ⟨fun n z => ⟨fun k h => (by cases h), kS, fS3, cmS, fS4⟩, kS, cmS, fS3, fS4, fS1, fS5⟩
    | k + 2, hq => simp [gT] at hq⟩
  obtain ⟨g, hgd⟩ : ∃ g : Nat → Nat, g = gad w := ⟨_, rfl⟩
  have G : gS (gw w g) [] (fun _ _ => 0) (lwF s) s s.heap s.heap [] := ⟨hK, fun k q h => by simp [gW] at h, ⟨fun i j p q h => by simp [gW] at h, fun k q h => by simp [gW] at h⟩, va_S.rf⟩
  have hl := lv_entry ([.ref b]) (n := 4) (Nat.le_of_ble_eq_true rfl)
  rw [lg_entry_eq]
  generalize (lg_sl ([.ref b]) ++ List.replicate (4 - (lg_sl ([.ref b])).length) Slot.unset).toArray = ls at hl ⊢
  have hl : lv_has ls 4 [(0, .ref b)] := hl
  refine g_newO (n := 0) (ci := 6) (C := RX6) (T := TX6) (N := 8) hx hb htsW hown [2, 2, 2, 2, 2, 2, 0, 0] inlX6 tyX6 tyX6_ok G hA rfl (by decide +kernel) rfl (fun j hj => by rcases (show j = 0 ∨ j = 1 ∨ j = 2 ∨ j = 3 ∨ j = 4 ∨ j = 5 ∨ j = 6 ∨ j = 7 by omega) with rfl | rfl | rfl | rfl | rfl | rfl | rfl | rfl <;> rfl) (by decide) wm_0 wm_1 wm_2 (Nat.le_trans (Nat.le_of_ble_eq_true rfl) hcs.1) (Nat.le_trans (Nat.le_of_ble_eq_true rfl) hcs.2) dL_law_0 (show _ = WL0 from rfl) (fun g x0 H a0 hg G => ?_)
  refine W.widen (k := 1) (n := 8) (Nat.le_of_ble_eq_true rfl) (Nat.le_of_ble_eq_true rfl) ?_
  refine lv_dup hx hb dL_law_3 rfl ?_
  refine g_callC (n := 0) (rest := [.ref x0]) (n0 := 1) hx hb hml htsW hown hNw hao hA G [] (cc_Grammar_0 l w _ _ _ x0 a0) rfl wm_6 wm_7 wm_2 wm_8 rfl ⟨by decide +kernel, by decide +kernel, by decide +kernel⟩ ⟨rfl, rfl, Nat.le_trans (show 4 + 1 ≤ 9 from (Nat.le_of_ble_eq_true rfl)) hF, Nat.le_trans (show 8 + (1 + 11) + 73 ≤ 207 from (Nat.le_of_ble_eq_true rfl)) hLo⟩ rfl hl.1 (Nat.le_of_ble_eq_true rfl) rfl dL_law_4 ⟨Nat.le_trans (Nat.le_of_ble_eq_true rfl) hcs.1, Nat.le_trans (Nat.le_of_ble_eq_true rfl) hcs.2⟩ (fun g H locs hg G => ?_)
  have a0 := (hg 0 (Nat.le_of_ble_eq_true rfl)).trans a0
  refine W.widen (k := 80) (n := 7564) (Nat.le_of_ble_eq_true rfl) (Nat.le_of_ble_eq_true rfl) ?_
  refine lv_astore_n (lv' := [(1, .ref x0), (0, .ref b)]) hx hb dL_law_7 rfl hl (by decide) rfl (fun ls hl => ?_)
  refine g_newO (n := 80) (ci := 7) (C := RX7) (T := TX7) (N := 17) hx hb htsW hown [2, 2, 0, 2, 0, 2, 2, 2, 2, 2, 2, 2, 0, 0, 0, 0, 1] inlX7 tyX7 tyX7_ok G hA rfl (by decide +kernel) rfl (fun j hj => by rcases (show j = 0 ∨ j = 1 ∨ j = 2 ∨ j = 3 ∨ j = 4 ∨ j = 5 ∨ j = 6 ∨ j = 7 ∨ j = 8 ∨ j = 9 ∨ j = 10 ∨ j = 11 ∨ j = 12 ∨ j = 13 ∨ j = 14 ∨ j = 15 ∨ j = 16 by omega) with rfl | rfl | rfl | rfl | rfl | rfl | rfl | rfl | rfl | rfl | rfl | rfl | rfl | rfl | rfl | rfl | rfl <;> rfl) (by decide) wm_3 wm_4 wm_5 (Nat.le_trans (Nat.le_of_ble_eq_true rfl) hcs.1) (Nat.le_trans (Nat.le_of_ble_eq_true rfl) hcs.2) dL_law_8 (show _ = WL128 from rfl) (fun g x80 H a80 hg G => ?_)
  have a0 := (hg 0 (Nat.le_of_ble_eq_true rfl)).trans a0
  refine W.widen (k := 81) (n := 7581) (Nat.le_of_ble_eq_true rfl) (Nat.le_of_ble_eq_true rfl) ?_
  refine lv_dup hx hb dL_law_11 rfl ?_
  refine g_callC (n := 0) (rest := [.ref x80]) (n0 := 81) hx hb hml htsW hown hNw hao hA G [] (cc_Model_80 l w _ _ _ x80 a80) rfl wm_104 wm_105 wm_5 wm_106 rfl ⟨by decide +kernel, by decide +kernel, by decide +kernel⟩ ⟨rfl, rfl, Nat.le_trans (show 1 + 1 ≤ 9 from (Nat.le_of_ble_eq_true rfl)) hF, Nat.le_trans (show 8 + (2 + 11) + 12 ≤ 207 from (Nat.le_of_ble_eq_true rfl)) hLo⟩ rfl hl.1 (Nat.le_of_ble_eq_true rfl) rfl dL_law_12 ⟨Nat.le_trans (Nat.le_of_ble_eq_true rfl) hcs.1, Nat.le_trans (Nat.le_of_ble_eq_true rfl) hcs.2⟩ (fun g H locs hg G => ?_)
  have a0 := (hg 0 (Nat.le_of_ble_eq_true rfl)).trans a0
  have a80 := (hg 80 (Nat.le_of_ble_eq_true rfl)).trans a80
  refine W.widen (k := 91) (n := 14351) (Nat.le_of_ble_eq_true rfl) (Nat.le_of_ble_eq_true rfl) ?_
  refine lv_astore_n (lv' := [(2, .ref x80), (1, .ref x0), (0, .ref b)]) hx hb dL_law_15 rfl hl (by decide) rfl (fun ls hl => ?_)
  refine lv_iconst (v := iz 0) hx hb dL_law_16 rfl ?_
  refine lv_istore_n (lv' := [(3, .int (iz 0)), (2, .ref x80), (1, .ref x0), (0, .ref b)]) hx hb dL_law_17 rfl hl (by decide) rfl (fun ls hl => ?_)
  have e0 : x0 = gad (gw w g) 0 := a0.symm
  have e80 : x80 = gad (gw w g) 80 := a80.symm
  rw [e0, e80] at hl
  exact law_loop (Q := X) hF hLo hcs hL C0 (fun σ H locs G t ht => hXt (gw w g) σ H locs G t ht) (L + 1) 0 0 (by decide) (by omega) (by omega) _ _ _ _ (Inv_start (fun _ _ => 0)) G hl
