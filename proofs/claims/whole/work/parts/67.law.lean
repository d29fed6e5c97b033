-- the law: a theorem a case, the loop, the start; the room of the launch is a parameter (at least 91 cells, NS slots)
theorem inR_toInt (x : Int32) : inR x.toInt := by
  have h1 := x.le_toInt
  have h2 := x.toInt_lt
  exact ⟨by omega, by omega⟩
def lwE (mc ms : Nat) (below : List Frame) (s : State) (X : State → Prop) : State → Prop := fun t => ∃ o, t.status = .running ∧ Ended t below o ∧ o = .returned (some (.int 1)) ∧ Framed s o t [] mc ms ∧ X t
def lwA (p : Program) (s : State) (m : MethodId) (meth : Method) (c : Code) (b L : Nat) (xs : Nat → Int32) : Prop :=
  p.tables.exec = Jvm.exec ∧ c.code = code ∧ meth.sig.returnType = ret ∧ c.maxLocals = 4 ∧ s.vm.findClass RL = some m.cls ∧ (∀ w ∈ lw_tbl, w.before #[Value.ref b] s = true) ∧ va_X b L xs s s.heap ∧ b < s.heap.size ∧ meth.locks = false
abbrev lwF (s : State) : Nat → Prop := fun q => s.heap.size ≤ q
theorem g_sld {p : Program} {l : Launch} {e : Env} {R : Room} {s : State} {m : MethodId} {args : Array Value} {below : List Frame} {meth : Method} {c : Code} {H H0 : Heap} {locs : List Loc} {cells slots : Nat} {Q : State → Prop} {cc : ByteArray} {pc : Nat} {ls : Array Slot} {rest : List Value} {A : Nat → Prop} (hexec : p.tables.exec = Jvm.exec) (hb : c.code = cc) {b L : Nat} {xs : Nat → Int32} (hX : va_X b L xs s H0) (hbl : b < H0.size) (hbA : ¬ A b) (hS : va_S A H0 H locs) {j : Int} (h0 : 0 ≤ j) (h1 : j < (L : Int)) (hL : L < 2147483648) (hdg : decode cc pc = .ok (.iaload, 1))
    (kk : W p l e R s m args below meth c H locs cells slots Q (F0 m (pc + 1) ls (.int (iz (xs j.toNat).toInt) :: rest))) : W p l e R s m args below meth c H locs cells slots Q (F0 m pc ls (.int (iz j) :: .ref b :: rest)) :=
  va_sld hexec hb hX hbl hbA hS (iz_in h0 h1 hL) hdg (by
    rw [iz_cl h0 (by omega)]
    rw [show iz (xs j.toNat).toInt = xs j.toNat from Int32.ofInt_toInt _] at kk
    exact kk)
theorem g_lend {p : Program} {l : Launch} {e : Env} {R : Room} {s : State} {m : MethodId} {below : List Frame} {meth : Method} {c : Code} {b mc ms : Nat} {X : State → Prop} (hx : p.tables.exec = Jvm.exec) (hb : c.code = code) (hr : meth.sig.returnType = ret) (hlocks : meth.locks = false) {pc : Nat} {H : Heap} {ls : Array Slot} (hX : ∀ t : State, t.heap = H → X t) (hdg : decode code pc = .ok (.ireturn, 1)) : W p l e R s m #[Value.ref b] below meth c H [] mc ms (lwE mc ms below s X) (F0 m pc ls [.int 1]) := by
  intro T hT X
  obtain ⟨fs, hret, hrun, hended, hW, hframe⟩ := X.leave (v := some (.int 1)) (hlocks := hlocks) (fun h => by rw [hr] at h; cases h)
  have hmeth' : T.vm.method? m = some meth := X.method'
  refine ⟨T.setFrames fs, ?_, .returned (some (.int 1)), hrun, hended, rfl, ⟨⟨_, rfl⟩, hW, hframe⟩, hX _ hT⟩
  jvm_step X.here [X.here.top, hx, hb, hdg, hmeth', hr, ret, narrow_b1]
  (try refine ⟨rfl, ?_⟩); (try refine ⟨rfl, ?_⟩)
  first | (intro acts; rw [hret _ acts rfl rfl rfl]) | rw [hret _ _ rfl rfl rfl]
  exact Steps.refl _
set_option maxHeartbeats 4000000 in
set_option maxRecDepth 100000 in
theorem lc_0 {p : Program} {l : Launch} {e : Env} {R : Room} {s : State} {m : MethodId} {below : List Frame} {meth : Method} {c : Code} {b L NS : Nat} {xs : Nat → Int32} {w : GW} {Q : State → Prop} (hF : 9 ≤ R.frames) (hLo : 207 ≤ R.locals) (hcs : 91 ≤ R.cells ∧ NS ≤ R.slots) (hL : L ≤ 1536) (C0 : lwA p s m meth c b L xs) {k : Nat} {i : Int} {σ : St} {H : Heap} {locs : List Loc} {ls : Array Slot} (hi0 : 0 ≤ i) (hiL : i + 3 ≤ (L : Int)) (hk : k ≤ 1000) (hI : Inv k σ) (G : gS w gSL σ (lwF s) s s.heap H locs) (hl : lv_has ls 4 [(3, .int (iz i)), (2, .ref (gad w 80)), (1, .ref (gad w 0)), (0, .ref b)]) (nx : ∀ (σ : St) (H : Heap) (locs : List Loc), Inv (k + 1) σ → gS w gSL σ (lwF s) s s.heap H locs → W p l e R s m #[Value.ref b] below meth c H locs 91 NS Q (F0 m 785 ls [])) : W p l e R s m #[Value.ref b] below meth c H locs 91 NS Q (F0 m 160 ls []) := by
  obtain ⟨hx, hb, hr, hml, hown, hts, hX, hbl, hlk⟩ := id C0
  have htsW : ∀ w ∈ wsL_law, w.before #[Value.ref b] s = true := fun w h => hts w (wsL_in w h)
  have hNw : gNw s := gNw_of hts
  have hA : ∀ q, s.heap.size ≤ q → lwF s q := fun _ h => h
  have hbA : ¬ lwF s b := Nat.not_le.mpr hbl
  refine lv_aload_n hx hb dL_law_160 rfl (lv_at hl 2 rfl) ?_
  refine lv_aload_n hx hb dL_law_161 rfl (lv_at hl 3 rfl) ?_
  refine lv_iload_n hx hb dL_law_162 rfl (lv_at hl 0 rfl) ?_
  refine lv_iconst (v := iz 1) hx hb dL_law_163 rfl ?_
  refine g_iadd hx hb dL_law_164 ?_
  refine g_sld hx hb hX hbl hbA G.2.2.2 (j := i + 1) (by omega) (by omega) (by omega) dL_law_165 ?_
  refine lv_aload_n hx hb dL_law_166 rfl (lv_at hl 3 rfl) ?_
  refine lv_iload_n hx hb dL_law_167 rfl (lv_at hl 0 rfl) ?_
  refine lv_iconst (v := iz 2) hx hb dL_law_168 rfl ?_
  refine g_iadd hx hb dL_law_169 ?_
  refine g_sld hx hb hX hbl hbA G.2.2.2 (j := i + 2) (by omega) (by omega) (by omega) dL_law_170 ?_
  have st := st_insert hI (inR_toInt (xs (i + 1).toNat)) (inR_toInt (xs (i + 2).toNat))
  refine g_callVi (rest := []) hx hb hml htsW hown hNw hA G [.int (iz (xs (i + 1).toNat).toInt), .int (iz (xs (i + 2).toNat).toInt)] (c_X6_insert l w σ _ ((xs (i + 1).toNat).toInt) ((xs (i + 2).toNat).toInt) st.1) sh_0 rfl wm_118 wm_119 wm_120 wm_2 wm_121 hd_X6_insert ⟨rfl, rfl, Nat.le_trans (show rm_X6_insert.frames + 1 ≤ 9 from (Nat.le_of_ble_eq_true rfl)) hF, Nat.le_trans (show 8 + (3 + 11) + rm_X6_insert.locals ≤ 207 from (Nat.le_of_ble_eq_true rfl)) hLo⟩ rfl hl.1 (Nat.le_of_ble_eq_true rfl) rfl dL_law_171 hcs (fun r s1 H locs h G => ?_)
  obtain ⟨hp7, hst⟩ := st.2 r s1 h
  refine lv_aload_n hx hb dL_law_174 rfl (lv_at hl 1 rfl) ?_
  refine lv_aload_n hx hb dL_law_175 rfl (lv_at hl 3 rfl) ?_
  refine lv_iload_n hx hb dL_law_176 rfl (lv_at hl 0 rfl) ?_
  refine lv_iconst (v := iz 1) hx hb dL_law_177 rfl ?_
  refine g_iadd hx hb dL_law_178 ?_
  refine g_sld hx hb hX hbl hbA G.2.2.2 (j := i + 1) (by omega) (by omega) (by omega) dL_law_179 ?_
  refine lv_aload_n hx hb dL_law_180 rfl (lv_at hl 3 rfl) ?_
  refine lv_iload_n hx hb dL_law_181 rfl (lv_at hl 0 rfl) ?_
  refine lv_iconst (v := iz 2) hx hb dL_law_182 rfl ?_
  refine g_iadd hx hb dL_law_183 ?_
  refine g_sld hx hb hX hbl hbA G.2.2.2 (j := i + 2) (by omega) (by omega) (by omega) dL_law_184 ?_
  refine g_callVi (rest := [.int (iz r)]) hx hb hml htsW hown hNw hA G [.int (iz (xs (i + 1).toNat).toInt), .int (iz (xs (i + 2).toNat).toInt)] (c_X7_insert l w s1 _ ((xs (i + 1).toNat).toInt) ((xs (i + 2).toNat).toInt) hp7) sh_80 rfl wm_172 wm_173 wm_174 wm_5 wm_175 hd_X7_insert ⟨rfl, rfl, Nat.le_trans (show rm_X7_insert.frames + 1 ≤ 9 from (Nat.le_of_ble_eq_true rfl)) hF, Nat.le_trans (show 8 + (4 + 11) + rm_X7_insert.locals ≤ 207 from (Nat.le_of_ble_eq_true rfl)) hLo⟩ rfl hl.1 (Nat.le_of_ble_eq_true rfl) rfl dL_law_185 hcs (fun r2 s2 H locs h G => ?_)
  obtain ⟨er, hI2⟩ := hst r2 s2 h
  exact lv_icmp_eq (tgt := 785) hx hb dL_law_188 (by decide) (fun _ => nx s2 H locs hI2 G) (fun q => absurd (congrArg iz er.symm) q)
set_option maxHeartbeats 4000000 in
set_option maxRecDepth 100000 in
theorem lc_1 {p : Program} {l : Launch} {e : Env} {R : Room} {s : State} {m : MethodId} {below : List Frame} {meth : Method} {c : Code} {b L NS : Nat} {xs : Nat → Int32} {w : GW} {Q : State → Prop} (hF : 9 ≤ R.frames) (hLo : 207 ≤ R.locals) (hcs : 91 ≤ R.cells ∧ NS ≤ R.slots) (hL : L ≤ 1536) (C0 : lwA p s m meth c b L xs) {k : Nat} {i : Int} {σ : St} {H : Heap} {locs : List Loc} {ls : Array Slot} (hi0 : 0 ≤ i) (hiL : i + 3 ≤ (L : Int)) (hk : k ≤ 1000) (hI : Inv k σ) (G : gS w gSL σ (lwF s) s s.heap H locs) (hl : lv_has ls 4 [(3, .int (iz i)), (2, .ref (gad w 80)), (1, .ref (gad w 0)), (0, .ref b)]) (nx : ∀ (σ : St) (H : Heap) (locs : List Loc), Inv (k + 1) σ → gS w gSL σ (lwF s) s s.heap H locs → W p l e R s m #[Value.ref b] below meth c H locs 91 NS Q (F0 m 785 ls [])) : W p l e R s m #[Value.ref b] below meth c H locs 91 NS Q (F0 m 193 ls []) := by
  obtain ⟨hx, hb, hr, hml, hown, hts, hX, hbl, hlk⟩ := id C0
  have htsW : ∀ w ∈ wsL_law, w.before #[Value.ref b] s = true := fun w h => hts w (wsL_in w h)
  have hNw : gNw s := gNw_of hts
  have hA : ∀ q, s.heap.size ≤ q → lwF s q := fun _ h => h
  have hbA : ¬ lwF s b := Nat.not_le.mpr hbl
  refine lv_aload_n hx hb dL_law_193 rfl (lv_at hl 2 rfl) ?_
  refine lv_aload_n hx hb dL_law_194 rfl (lv_at hl 3 rfl) ?_
  refine lv_iload_n hx hb dL_law_195 rfl (lv_at hl 0 rfl) ?_
  refine lv_iconst (v := iz 1) hx hb dL_law_196 rfl ?_
  refine g_iadd hx hb dL_law_197 ?_
  refine g_sld hx hb hX hbl hbA G.2.2.2 (j := i + 1) (by omega) (by omega) (by omega) dL_law_198 ?_
  refine lv_aload_n hx hb dL_law_199 rfl (lv_at hl 3 rfl) ?_
  refine lv_iload_n hx hb dL_law_200 rfl (lv_at hl 0 rfl) ?_
  refine lv_iconst (v := iz 2) hx hb dL_law_201 rfl ?_
  refine g_iadd hx hb dL_law_202 ?_
  refine g_sld hx hb hX hbl hbA G.2.2.2 (j := i + 2) (by omega) (by omega) (by omega) dL_law_203 ?_
  have st := st_replace hI (inR_toInt (xs (i + 1).toNat)) (inR_toInt (xs (i + 2).toNat))
  refine g_callVi (rest := []) hx hb hml htsW hown hNw hA G [.int (iz (xs (i + 1).toNat).toInt), .int (iz (xs (i + 2).toNat).toInt)] (c_X6_replace l w σ _ ((xs (i + 1).toNat).toInt) ((xs (i + 2).toNat).toInt) st.1) sh_0 rfl wm_191 wm_192 wm_193 wm_2 wm_194 hd_X6_replace ⟨rfl, rfl, Nat.le_trans (show rm_X6_replace.frames + 1 ≤ 9 from (Nat.le_of_ble_eq_true rfl)) hF, Nat.le_trans (show 8 + (4 + 11) + rm_X6_replace.locals ≤ 207 from (Nat.le_of_ble_eq_true rfl)) hLo⟩ rfl hl.1 (Nat.le_of_ble_eq_true rfl) rfl dL_law_204 hcs (fun r s1 H locs h G => ?_)
  obtain ⟨hp7, hst⟩ := st.2 r s1 h
  refine lv_aload_n hx hb dL_law_207 rfl (lv_at hl 1 rfl) ?_
  refine lv_aload_n hx hb dL_law_208 rfl (lv_at hl 3 rfl) ?_
  refine lv_iload_n hx hb dL_law_209 rfl (lv_at hl 0 rfl) ?_
  refine lv_iconst (v := iz 1) hx hb dL_law_210 rfl ?_
  refine g_iadd hx hb dL_law_211 ?_
  refine g_sld hx hb hX hbl hbA G.2.2.2 (j := i + 1) (by omega) (by omega) (by omega) dL_law_212 ?_
  refine lv_aload_n hx hb dL_law_213 rfl (lv_at hl 3 rfl) ?_
  refine lv_iload_n hx hb dL_law_214 rfl (lv_at hl 0 rfl) ?_
  refine lv_iconst (v := iz 2) hx hb dL_law_215 rfl ?_
  refine g_iadd hx hb dL_law_216 ?_
  refine g_sld hx hb hX hbl hbA G.2.2.2 (j := i + 2) (by omega) (by omega) (by omega) dL_law_217 ?_
  refine g_callVi (rest := [.int (iz r)]) hx hb hml htsW hown hNw hA G [.int (iz (xs (i + 1).toNat).toInt), .int (iz (xs (i + 2).toNat).toInt)] (c_X7_replace l w s1 _ ((xs (i + 1).toNat).toInt) ((xs (i + 2).toNat).toInt) hp7) sh_80 rfl wm_207 wm_208 wm_209 wm_5 wm_210 hd_X7_replace ⟨rfl, rfl, Nat.le_trans (show rm_X7_replace.frames + 1 ≤ 9 from (Nat.le_of_ble_eq_true rfl)) hF, Nat.le_trans (show 8 + (4 + 11) + rm_X7_replace.locals ≤ 207 from (Nat.le_of_ble_eq_true rfl)) hLo⟩ rfl hl.1 (Nat.le_of_ble_eq_true rfl) rfl dL_law_218 hcs (fun r2 s2 H locs h G => ?_)
  obtain ⟨er, hI2⟩ := hst r2 s2 h
  exact lv_icmp_eq (tgt := 785) hx hb dL_law_221 (by decide) (fun _ => nx s2 H locs hI2 G) (fun q => absurd (congrArg iz er.symm) q)
set_option maxHeartbeats 4000000 in
set_option maxRecDepth 100000 in
theorem lc_2 {p : Program} {l : Launch} {e : Env} {R : Room} {s : State} {m : MethodId} {below : List Frame} {meth : Method} {c : Code} {b L NS : Nat} {xs : Nat → Int32} {w : GW} {Q : State → Prop} (hF : 9 ≤ R.frames) (hLo : 207 ≤ R.locals) (hcs : 91 ≤ R.cells ∧ NS ≤ R.slots) (hL : L ≤ 1536) (C0 : lwA p s m meth c b L xs) {k : Nat} {i : Int} {σ : St} {H : Heap} {locs : List Loc} {ls : Array Slot} (hi0 : 0 ≤ i) (hiL : i + 3 ≤ (L : Int)) (hk : k ≤ 1000) (hI : Inv k σ) (G : gS w gSL σ (lwF s) s s.heap H locs) (hl : lv_has ls 4 [(3, .int (iz i)), (2, .ref (gad w 80)), (1, .ref (gad w 0)), (0, .ref b)]) (nx : ∀ (σ : St) (H : Heap) (locs : List Loc), Inv (k + 1) σ → gS w gSL σ (lwF s) s s.heap H locs → W p l e R s m #[Value.ref b] below meth c H locs 91 NS Q (F0 m 785 ls [])) : W p l e R s m #[Value.ref b] below meth c H locs 91 NS Q (F0 m 226 ls []) := by
  obtain ⟨hx, hb, hr, hml, hown, hts, hX, hbl, hlk⟩ := id C0
  have htsW : ∀ w ∈ wsL_law, w.before #[Value.ref b] s = true := fun w h => hts w (wsL_in w h)
  have hNw : gNw s := gNw_of hts
  have hA : ∀ q, s.heap.size ≤ q → lwF s q := fun _ h => h
  have hbA : ¬ lwF s b := Nat.not_le.mpr hbl
  refine lv_aload_n hx hb dL_law_226 rfl (lv_at hl 2 rfl) ?_
  refine lv_aload_n hx hb dL_law_227 rfl (lv_at hl 3 rfl) ?_
  refine lv_iload_n hx hb dL_law_228 rfl (lv_at hl 0 rfl) ?_
  refine lv_iconst (v := iz 1) hx hb dL_law_229 rfl ?_
  refine g_iadd hx hb dL_law_230 ?_
  refine g_sld hx hb hX hbl hbA G.2.2.2 (j := i + 1) (by omega) (by omega) (by omega) dL_law_231 ?_
  refine lv_aload_n hx hb dL_law_232 rfl (lv_at hl 3 rfl) ?_
  refine lv_iload_n hx hb dL_law_233 rfl (lv_at hl 0 rfl) ?_
  refine lv_iconst (v := iz 2) hx hb dL_law_234 rfl ?_
  refine g_iadd hx hb dL_law_235 ?_
  refine g_sld hx hb hX hbl hbA G.2.2.2 (j := i + 2) (by omega) (by omega) (by omega) dL_law_236 ?_
  have st := st_delete hI (inR_toInt (xs (i + 1).toNat)) (inR_toInt (xs (i + 2).toNat))
  refine g_callVi (rest := []) hx hb hml htsW hown hNw hA G [.int (iz (xs (i + 1).toNat).toInt), .int (iz (xs (i + 2).toNat).toInt)] (c_X6_delete l w σ _ ((xs (i + 1).toNat).toInt) ((xs (i + 2).toNat).toInt) st.1) sh_0 rfl wm_215 wm_216 wm_217 wm_2 wm_218 hd_X6_delete ⟨rfl, rfl, Nat.le_trans (show rm_X6_delete.frames + 1 ≤ 9 from (Nat.le_of_ble_eq_true rfl)) hF, Nat.le_trans (show 8 + (3 + 11) + rm_X6_delete.locals ≤ 207 from (Nat.le_of_ble_eq_true rfl)) hLo⟩ rfl hl.1 (Nat.le_of_ble_eq_true rfl) rfl dL_law_237 hcs (fun r s1 H locs h G => ?_)
  obtain ⟨hp7, hst⟩ := st.2 r s1 h
  refine lv_aload_n hx hb dL_law_240 rfl (lv_at hl 1 rfl) ?_
  refine lv_aload_n hx hb dL_law_241 rfl (lv_at hl 3 rfl) ?_
  refine lv_iload_n hx hb dL_law_242 rfl (lv_at hl 0 rfl) ?_
  refine lv_iconst (v := iz 1) hx hb dL_law_243 rfl ?_
  refine g_iadd hx hb dL_law_244 ?_
  refine g_sld hx hb hX hbl hbA G.2.2.2 (j := i + 1) (by omega) (by omega) (by omega) dL_law_245 ?_
  refine lv_aload_n hx hb dL_law_246 rfl (lv_at hl 3 rfl) ?_
  refine lv_iload_n hx hb dL_law_247 rfl (lv_at hl 0 rfl) ?_
  refine lv_iconst (v := iz 2) hx hb dL_law_248 rfl ?_
  refine g_iadd hx hb dL_law_249 ?_
  refine g_sld hx hb hX hbl hbA G.2.2.2 (j := i + 2) (by omega) (by omega) (by omega) dL_law_250 ?_
  refine g_callVi (rest := [.int (iz r)]) hx hb hml htsW hown hNw hA G [.int (iz (xs (i + 1).toNat).toInt), .int (iz (xs (i + 2).toNat).toInt)] (c_X7_delete l w s1 _ ((xs (i + 1).toNat).toInt) ((xs (i + 2).toNat).toInt) hp7) sh_80 rfl wm_223 wm_224 wm_225 wm_5 wm_226 hd_X7_delete ⟨rfl, rfl, Nat.le_trans (show rm_X7_delete.frames + 1 ≤ 9 from (Nat.le_of_ble_eq_true rfl)) hF, Nat.le_trans (show 8 + (4 + 11) + rm_X7_delete.locals ≤ 207 from (Nat.le_of_ble_eq_true rfl)) hLo⟩ rfl hl.1 (Nat.le_of_ble_eq_true rfl) rfl dL_law_251 hcs (fun r2 s2 H locs h G => ?_)
  obtain ⟨er, hI2⟩ := hst r2 s2 h
  exact lv_icmp_eq (tgt := 785) hx hb dL_law_254 (by decide) (fun _ => nx s2 H locs hI2 G) (fun q => absurd (congrArg iz er.symm) q)
set_option maxHeartbeats 4000000 in
set_option maxRecDepth 100000 in
theorem lc_3 {p : Program} {l : Launch} {e : Env} {R : Room} {s : State} {m : MethodId} {below : List Frame} {meth : Method} {c : Code} {b L NS : Nat} {xs : Nat → Int32} {w : GW} {Q : State → Prop} (hF : 9 ≤ R.frames) (hLo : 207 ≤ R.locals) (hcs : 91 ≤ R.cells ∧ NS ≤ R.slots) (hL : L ≤ 1536) (C0 : lwA p s m meth c b L xs) {k : Nat} {i : Int} {σ : St} {H : Heap} {locs : List Loc} {ls : Array Slot} (hi0 : 0 ≤ i) (hiL : i + 3 ≤ (L : Int)) (hk : k ≤ 1000) (hI : Inv k σ) (G : gS w gSL σ (lwF s) s s.heap H locs) (hl : lv_has ls 4 [(3, .int (iz i)), (2, .ref (gad w 80)), (1, .ref (gad w 0)), (0, .ref b)]) (nx : ∀ (σ : St) (H : Heap) (locs : List Loc), Inv (k + 1) σ → gS w gSL σ (lwF s) s s.heap H locs → W p l e R s m #[Value.ref b] below meth c H locs 91 NS Q (F0 m 785 ls [])) : W p l e R s m #[Value.ref b] below meth c H locs 91 NS Q (F0 m 259 ls []) := by
  obtain ⟨hx, hb, hr, hml, hown, hts, hX, hbl, hlk⟩ := id C0
  have htsW : ∀ w ∈ wsL_law, w.before #[Value.ref b] s = true := fun w h => hts w (wsL_in w h)
  have hNw : gNw s := gNw_of hts
  have hA : ∀ q, s.heap.size ≤ q → lwF s q := fun _ h => h
  have hbA : ¬ lwF s b := Nat.not_le.mpr hbl
  refine lv_aload_n hx hb dL_law_259 rfl (lv_at hl 2 rfl) ?_
  have st := st_length hI
  refine g_callVi (rest := []) hx hb hml htsW hown hNw hA G [] (c_X6_length l w σ _ st.1) sh_0 rfl wm_227 wm_228 wm_229 wm_2 wm_230 hd_X6_length ⟨rfl, rfl, Nat.le_trans (show rm_X6_length.frames + 1 ≤ 9 from (Nat.le_of_ble_eq_true rfl)) hF, Nat.le_trans (show 8 + (1 + 11) + rm_X6_length.locals ≤ 207 from (Nat.le_of_ble_eq_true rfl)) hLo⟩ rfl hl.1 (Nat.le_of_ble_eq_true rfl) rfl dL_law_260 hcs (fun r s1 H locs h G => ?_)
  obtain ⟨hp7, hst⟩ := st.2 r s1 h
  refine lv_aload_n hx hb dL_law_263 rfl (lv_at hl 1 rfl) ?_
  refine g_callVi (rest := [.int (iz r)]) hx hb hml htsW hown hNw hA G [] (c_X7_length l w s1 _ hp7) sh_80 rfl wm_231 wm_232 wm_233 wm_5 wm_234 hd_X7_length ⟨rfl, rfl, Nat.le_trans (show rm_X7_length.frames + 1 ≤ 9 from (Nat.le_of_ble_eq_true rfl)) hF, Nat.le_trans (show 8 + (1 + 11) + rm_X7_length.locals ≤ 207 from (Nat.le_of_ble_eq_true rfl)) hLo⟩ rfl hl.1 (Nat.le_of_ble_eq_true rfl) rfl dL_law_264 hcs (fun r2 s2 H locs h G => ?_)
  obtain ⟨er, hI2⟩ := hst r2 s2 h
  exact lv_icmp_eq (tgt := 785) hx hb dL_law_267 (by decide) (fun _ => nx s2 H locs hI2 G) (fun q => absurd (congrArg iz er.symm) q)
set_option maxHeartbeats 4000000 in
set_option maxRecDepth 100000 in
theorem lc_4 {p : Program} {l : Launch} {e : Env} {R : Room} {s : State} {m : MethodId} {below : List Frame} {meth : Method} {c : Code} {b L NS : Nat} {xs : Nat → Int32} {w : GW} {Q : State → Prop} (hF : 9 ≤ R.frames) (hLo : 207 ≤ R.locals) (hcs : 91 ≤ R.cells ∧ NS ≤ R.slots) (hL : L ≤ 1536) (C0 : lwA p s m meth c b L xs) {k : Nat} {i : Int} {σ : St} {H : Heap} {locs : List Loc} {ls : Array Slot} (hi0 : 0 ≤ i) (hiL : i + 3 ≤ (L : Int)) (hk : k ≤ 1000) (hI : Inv k σ) (G : gS w gSL σ (lwF s) s s.heap H locs) (hl : lv_has ls 4 [(3, .int (iz i)), (2, .ref (gad w 80)), (1, .ref (gad w 0)), (0, .ref b)]) (nx : ∀ (σ : St) (H : Heap) (locs : List Loc), Inv (k + 1) σ → gS w gSL σ (lwF s) s s.heap H locs → W p l e R s m #[Value.ref b] below meth c H locs 91 NS Q (F0 m 785 ls [])) : W p l e R s m #[Value.ref b] below meth c H locs 91 NS Q (F0 m 272 ls []) := by
  obtain ⟨hx, hb, hr, hml, hown, hts, hX, hbl, hlk⟩ := id C0
  have htsW : ∀ w ∈ wsL_law, w.before #[Value.ref b] s = true := fun w h => hts w (wsL_in w h)
  have hNw : gNw s := gNw_of hts
  have hA : ∀ q, s.heap.size ≤ q → lwF s q := fun _ h => h
  have hbA : ¬ lwF s b := Nat.not_le.mpr hbl
  refine lv_aload_n hx hb dL_law_272 rfl (lv_at hl 2 rfl) ?_
  refine lv_aload_n hx hb dL_law_273 rfl (lv_at hl 3 rfl) ?_
  refine lv_iload_n hx hb dL_law_274 rfl (lv_at hl 0 rfl) ?_
  refine lv_iconst (v := iz 1) hx hb dL_law_275 rfl ?_
  refine g_iadd hx hb dL_law_276 ?_
  refine g_sld hx hb hX hbl hbA G.2.2.2 (j := i + 1) (by omega) (by omega) (by omega) dL_law_277 ?_
  have st := st_byteAt hI (inR_toInt (xs (i + 1).toNat))
  refine g_callVi (rest := []) hx hb hml htsW hown hNw hA G [.int (iz (xs (i + 1).toNat).toInt)] (c_X6_byteAt l w σ _ ((xs (i + 1).toNat).toInt) st.1) sh_0 rfl wm_235 wm_236 wm_237 wm_2 wm_238 hd_X6_byteAt ⟨rfl, rfl, Nat.le_trans (show rm_X6_byteAt.frames + 1 ≤ 9 from (Nat.le_of_ble_eq_true rfl)) hF, Nat.le_trans (show 8 + (2 + 11) + rm_X6_byteAt.locals ≤ 207 from (Nat.le_of_ble_eq_true rfl)) hLo⟩ rfl hl.1 (Nat.le_of_ble_eq_true rfl) rfl dL_law_278 hcs (fun r s1 H locs h G => ?_)
  obtain ⟨hp7, hst⟩ := st.2 r s1 h
  refine lv_aload_n hx hb dL_law_281 rfl (lv_at hl 1 rfl) ?_
  refine lv_aload_n hx hb dL_law_282 rfl (lv_at hl 3 rfl) ?_
  refine lv_iload_n hx hb dL_law_283 rfl (lv_at hl 0 rfl) ?_
  refine lv_iconst (v := iz 1) hx hb dL_law_284 rfl ?_
  refine g_iadd hx hb dL_law_285 ?_
  refine g_sld hx hb hX hbl hbA G.2.2.2 (j := i + 1) (by omega) (by omega) (by omega) dL_law_286 ?_
  refine g_callVi (rest := [.int (iz r)]) hx hb hml htsW hown hNw hA G [.int (iz (xs (i + 1).toNat).toInt)] (c_X7_byteAt l w s1 _ ((xs (i + 1).toNat).toInt) hp7) sh_80 rfl wm_239 wm_240 wm_241 wm_5 wm_242 hd_X7_byteAt ⟨rfl, rfl, Nat.le_trans (show rm_X7_byteAt.frames + 1 ≤ 9 from (Nat.le_of_ble_eq_true rfl)) hF, Nat.le_trans (show 8 + (2 + 11) + rm_X7_byteAt.locals ≤ 207 from (Nat.le_of_ble_eq_true rfl)) hLo⟩ rfl hl.1 (Nat.le_of_ble_eq_true rfl) rfl dL_law_287 hcs (fun r2 s2 H locs h G => ?_)
  obtain ⟨er, hI2⟩ := hst r2 s2 h
  exact lv_icmp_eq (tgt := 785) hx hb dL_law_290 (by decide) (fun _ => nx s2 H locs hI2 G) (fun q => absurd (congrArg iz er.symm) q)
set_option maxHeartbeats 4000000 in
set_option maxRecDepth 100000 in
theorem lc_5 {p : Program} {l : Launch} {e : Env} {R : Room} {s : State} {m : MethodId} {below : List Frame} {meth : Method} {c : Code} {b L NS : Nat} {xs : Nat → Int32} {w : GW} {Q : State → Prop} (hF : 9 ≤ R.frames) (hLo : 207 ≤ R.locals) (hcs : 91 ≤ R.cells ∧ NS ≤ R.slots) (hL : L ≤ 1536) (C0 : lwA p s m meth c b L xs) {k : Nat} {i : Int} {σ : St} {H : Heap} {locs : List Loc} {ls : Array Slot} (hi0 : 0 ≤ i) (hiL : i + 3 ≤ (L : Int)) (hk : k ≤ 1000) (hI : Inv k σ) (G : gS w gSL σ (lwF s) s s.heap H locs) (hl : lv_has ls 4 [(3, .int (iz i)), (2, .ref (gad w 80)), (1, .ref (gad w 0)), (0, .ref b)]) (nx : ∀ (σ : St) (H : Heap) (locs : List Loc), Inv (k + 1) σ → gS w gSL σ (lwF s) s s.heap H locs → W p l e R s m #[Value.ref b] below meth c H locs 91 NS Q (F0 m 785 ls [])) : W p l e R s m #[Value.ref b] below meth c H locs 91 NS Q (F0 m 295 ls []) := by
  obtain ⟨hx, hb, hr, hml, hown, hts, hX, hbl, hlk⟩ := id C0
  have htsW : ∀ w ∈ wsL_law, w.before #[Value.ref b] s = true := fun w h => hts w (wsL_in w h)
  have hNw : gNw s := gNw_of hts
  have hA : ∀ q, s.heap.size ≤ q → lwF s q := fun _ h => h
  have hbA : ¬ lwF s b := Nat.not_le.mpr hbl
  refine lv_aload_n hx hb dL_law_295 rfl (lv_at hl 2 rfl) ?_
  refine lv_aload_n hx hb dL_law_296 rfl (lv_at hl 3 rfl) ?_
  refine lv_iload_n hx hb dL_law_297 rfl (lv_at hl 0 rfl) ?_
  refine lv_iconst (v := iz 1) hx hb dL_law_298 rfl ?_
  refine g_iadd hx hb dL_law_299 ?_
  refine g_sld hx hb hX hbl hbA G.2.2.2 (j := i + 1) (by omega) (by omega) (by omega) dL_law_300 ?_
  have st := st_append hI (inR_toInt (xs (i + 1).toNat))
  refine g_callVi (rest := []) hx hb hml htsW hown hNw hA G [.int (iz (xs (i + 1).toNat).toInt)] (c_X6_append l w σ _ ((xs (i + 1).toNat).toInt) st.1) sh_0 rfl wm_243 wm_244 wm_245 wm_2 wm_246 hd_X6_append ⟨rfl, rfl, Nat.le_trans (show rm_X6_append.frames + 1 ≤ 9 from (Nat.le_of_ble_eq_true rfl)) hF, Nat.le_trans (show 8 + (2 + 11) + rm_X6_append.locals ≤ 207 from (Nat.le_of_ble_eq_true rfl)) hLo⟩ rfl hl.1 (Nat.le_of_ble_eq_true rfl) rfl dL_law_301 hcs (fun r s1 H locs h G => ?_)
  obtain ⟨hp7, hst⟩ := st.2 r s1 h
  refine lv_aload_n hx hb dL_law_304 rfl (lv_at hl 1 rfl) ?_
  refine lv_aload_n hx hb dL_law_305 rfl (lv_at hl 3 rfl) ?_
  refine lv_iload_n hx hb dL_law_306 rfl (lv_at hl 0 rfl) ?_
  refine lv_iconst (v := iz 1) hx hb dL_law_307 rfl ?_
  refine g_iadd hx hb dL_law_308 ?_
  refine g_sld hx hb hX hbl hbA G.2.2.2 (j := i + 1) (by omega) (by omega) (by omega) dL_law_309 ?_
  refine g_callVi (rest := [.int (iz r)]) hx hb hml htsW hown hNw hA G [.int (iz (xs (i + 1).toNat).toInt)] (c_X7_append l w s1 _ ((xs (i + 1).toNat).toInt) hp7) sh_80 rfl wm_247 wm_248 wm_249 wm_5 wm_250 hd_X7_append ⟨rfl, rfl, Nat.le_trans (show rm_X7_append.frames + 1 ≤ 9 from (Nat.le_of_ble_eq_true rfl)) hF, Nat.le_trans (show 8 + (2 + 11) + rm_X7_append.locals ≤ 207 from (Nat.le_of_ble_eq_true rfl)) hLo⟩ rfl hl.1 (Nat.le_of_ble_eq_true rfl) rfl dL_law_310 hcs (fun r2 s2 H locs h G => ?_)
  obtain ⟨er, hI2⟩ := hst r2 s2 h
  exact lv_icmp_eq (tgt := 785) hx hb dL_law_313 (by decide) (fun _ => nx s2 H locs hI2 G) (fun q => absurd (congrArg iz er.symm) q)
set_option maxHeartbeats 4000000 in
set_option maxRecDepth 100000 in
theorem lc_6 {p : Program} {l : Launch} {e : Env} {R : Room} {s : State} {m : MethodId} {below : List Frame} {meth : Method} {c : Code} {b L NS : Nat} {xs : Nat → Int32} {w : GW} {Q : State → Prop} (hF : 9 ≤ R.frames) (hLo : 207 ≤ R.locals) (hcs : 91 ≤ R.cells ∧ NS ≤ R.slots) (hL : L ≤ 1536) (C0 : lwA p s m meth c b L xs) {k : Nat} {i : Int} {σ : St} {H : Heap} {locs : List Loc} {ls : Array Slot} (hi0 : 0 ≤ i) (hiL : i + 3 ≤ (L : Int)) (hk : k ≤ 1000) (hI : Inv k σ) (G : gS w gSL σ (lwF s) s s.heap H locs) (hl : lv_has ls 4 [(3, .int (iz i)), (2, .ref (gad w 80)), (1, .ref (gad w 0)), (0, .ref b)]) (nx : ∀ (σ : St) (H : Heap) (locs : List Loc), Inv (k + 1) σ → gS w gSL σ (lwF s) s s.heap H locs → W p l e R s m #[Value.ref b] below meth c H locs 91 NS Q (F0 m 785 ls [])) : W p l e R s m #[Value.ref b] below meth c H locs 91 NS Q (F0 m 318 ls []) := by
  obtain ⟨hx, hb, hr, hml, hown, hts, hX, hbl, hlk⟩ := id C0
  have htsW : ∀ w ∈ wsL_law, w.before #[Value.ref b] s = true := fun w h => hts w (wsL_in w h)
  have hNw : gNw s := gNw_of hts
  have hA : ∀ q, s.heap.size ≤ q → lwF s q := fun _ h => h
  have hbA : ¬ lwF s b := Nat.not_le.mpr hbl
  refine lv_aload_n hx hb dL_law_318 rfl (lv_at hl 2 rfl) ?_
  have st := st_clearPattern hI
  refine g_callVi (rest := []) hx hb hml htsW hown hNw hA G [] (c_X6_clearPattern l w σ _ st.1) sh_0 rfl wm_252 wm_253 wm_254 wm_2 wm_255 hd_X6_clearPattern ⟨rfl, rfl, Nat.le_trans (show rm_X6_clearPattern.frames + 1 ≤ 9 from (Nat.le_of_ble_eq_true rfl)) hF, Nat.le_trans (show 8 + (2 + 11) + rm_X6_clearPattern.locals ≤ 207 from (Nat.le_of_ble_eq_true rfl)) hLo⟩ rfl hl.1 (Nat.le_of_ble_eq_true rfl) rfl dL_law_319 hcs (fun r s1 H locs h G => ?_)
  obtain ⟨hp7, hst⟩ := st.2 r s1 h
  refine lv_aload_n hx hb dL_law_322 rfl (lv_at hl 1 rfl) ?_
  refine g_callVi (rest := [.int (iz r)]) hx hb hml htsW hown hNw hA G [] (c_X7_clearPattern l w s1 _ hp7) sh_80 rfl wm_256 wm_257 wm_258 wm_5 wm_259 hd_X7_clearPattern ⟨rfl, rfl, Nat.le_trans (show rm_X7_clearPattern.frames + 1 ≤ 9 from (Nat.le_of_ble_eq_true rfl)) hF, Nat.le_trans (show 8 + (2 + 11) + rm_X7_clearPattern.locals ≤ 207 from (Nat.le_of_ble_eq_true rfl)) hLo⟩ rfl hl.1 (Nat.le_of_ble_eq_true rfl) rfl dL_law_323 hcs (fun r2 s2 H locs h G => ?_)
  obtain ⟨er, hI2⟩ := hst r2 s2 h
  exact lv_icmp_eq (tgt := 785) hx hb dL_law_326 (by decide) (fun _ => nx s2 H locs hI2 G) (fun q => absurd (congrArg iz er.symm) q)
set_option maxHeartbeats 4000000 in
set_option maxRecDepth 100000 in
theorem lc_7 {p : Program} {l : Launch} {e : Env} {R : Room} {s : State} {m : MethodId} {below : List Frame} {meth : Method} {c : Code} {b L NS : Nat} {xs : Nat → Int32} {w : GW} {Q : State → Prop} (hF : 9 ≤ R.frames) (hLo : 207 ≤ R.locals) (hcs : 91 ≤ R.cells ∧ NS ≤ R.slots) (hL : L ≤ 1536) (C0 : lwA p s m meth c b L xs) {k : Nat} {i : Int} {σ : St} {H : Heap} {locs : List Loc} {ls : Array Slot} (hi0 : 0 ≤ i) (hiL : i + 3 ≤ (L : Int)) (hk : k ≤ 1000) (hI : Inv k σ) (G : gS w gSL σ (lwF s) s s.heap H locs) (hl : lv_has ls 4 [(3, .int (iz i)), (2, .ref (gad w 80)), (1, .ref (gad w 0)), (0, .ref b)]) (nx : ∀ (σ : St) (H : Heap) (locs : List Loc), Inv (k + 1) σ → gS w gSL σ (lwF s) s s.heap H locs → W p l e R s m #[Value.ref b] below meth c H locs 91 NS Q (F0 m 785 ls [])) : W p l e R s m #[Value.ref b] below meth c H locs 91 NS Q (F0 m 331 ls []) := by
  obtain ⟨hx, hb, hr, hml, hown, hts, hX, hbl, hlk⟩ := id C0
  have htsW : ∀ w ∈ wsL_law, w.before #[Value.ref b] s = true := fun w h => hts w (wsL_in w h)
  have hNw : gNw s := gNw_of hts
  have hA : ∀ q, s.heap.size ≤ q → lwF s q := fun _ h => h
  have hbA : ¬ lwF s b := Nat.not_le.mpr hbl
  refine lv_aload_n hx hb dL_law_331 rfl (lv_at hl 2 rfl) ?_
  refine lv_aload_n hx hb dL_law_332 rfl (lv_at hl 3 rfl) ?_
  refine lv_iload_n hx hb dL_law_333 rfl (lv_at hl 0 rfl) ?_
  refine lv_iconst (v := iz 1) hx hb dL_law_334 rfl ?_
  refine g_iadd hx hb dL_law_335 ?_
  refine g_sld hx hb hX hbl hbA G.2.2.2 (j := i + 1) (by omega) (by omega) (by omega) dL_law_336 ?_
  have st := st_define hI (inR_toInt (xs (i + 1).toNat))
  refine g_callVi (rest := []) hx hb hml htsW hown hNw hA G [.int (iz (xs (i + 1).toNat).toInt)] (c_X6_define l w σ _ ((xs (i + 1).toNat).toInt) st.1) sh_0 rfl wm_260 wm_261 wm_262 wm_2 wm_263 hd_X6_define ⟨rfl, rfl, Nat.le_trans (show rm_X6_define.frames + 1 ≤ 9 from (Nat.le_of_ble_eq_true rfl)) hF, Nat.le_trans (show 8 + (2 + 11) + rm_X6_define.locals ≤ 207 from (Nat.le_of_ble_eq_true rfl)) hLo⟩ rfl hl.1 (Nat.le_of_ble_eq_true rfl) rfl dL_law_337 hcs (fun r s1 H locs h G => ?_)
  obtain ⟨hp7, hst⟩ := st.2 r s1 h
  refine lv_aload_n hx hb dL_law_340 rfl (lv_at hl 1 rfl) ?_
  refine lv_aload_n hx hb dL_law_341 rfl (lv_at hl 3 rfl) ?_
  refine lv_iload_n hx hb dL_law_342 rfl (lv_at hl 0 rfl) ?_
  refine lv_iconst (v := iz 1) hx hb dL_law_343 rfl ?_
  refine g_iadd hx hb dL_law_344 ?_
  refine g_sld hx hb hX hbl hbA G.2.2.2 (j := i + 1) (by omega) (by omega) (by omega) dL_law_345 ?_
  refine g_callVi (rest := [.int (iz r)]) hx hb hml htsW hown hNw hA G [.int (iz (xs (i + 1).toNat).toInt)] (c_X7_define l w s1 _ ((xs (i + 1).toNat).toInt) hp7) sh_80 rfl wm_277 wm_278 wm_279 wm_5 wm_280 hd_X7_define ⟨rfl, rfl, Nat.le_trans (show rm_X7_define.frames + 1 ≤ 9 from (Nat.le_of_ble_eq_true rfl)) hF, Nat.le_trans (show 8 + (3 + 11) + rm_X7_define.locals ≤ 207 from (Nat.le_of_ble_eq_true rfl)) hLo⟩ rfl hl.1 (Nat.le_of_ble_eq_true rfl) rfl dL_law_346 hcs (fun r2 s2 H locs h G => ?_)
  obtain ⟨er, hI2⟩ := hst r2 s2 h
  exact lv_icmp_eq (tgt := 785) hx hb dL_law_349 (by decide) (fun _ => nx s2 H locs hI2 G) (fun q => absurd (congrArg iz er.symm) q)
set_option maxHeartbeats 4000000 in
set_option maxRecDepth 100000 in
theorem lc_8 {p : Program} {l : Launch} {e : Env} {R : Room} {s : State} {m : MethodId} {below : List Frame} {meth : Method} {c : Code} {b L NS : Nat} {xs : Nat → Int32} {w : GW} {Q : State → Prop} (hF : 9 ≤ R.frames) (hLo : 207 ≤ R.locals) (hcs : 91 ≤ R.cells ∧ NS ≤ R.slots) (hL : L ≤ 1536) (C0 : lwA p s m meth c b L xs) {k : Nat} {i : Int} {σ : St} {H : Heap} {locs : List Loc} {ls : Array Slot} (hi0 : 0 ≤ i) (hiL : i + 3 ≤ (L : Int)) (hk : k ≤ 1000) (hI : Inv k σ) (G : gS w gSL σ (lwF s) s s.heap H locs) (hl : lv_has ls 4 [(3, .int (iz i)), (2, .ref (gad w 80)), (1, .ref (gad w 0)), (0, .ref b)]) (nx : ∀ (σ : St) (H : Heap) (locs : List Loc), Inv (k + 1) σ → gS w gSL σ (lwF s) s s.heap H locs → W p l e R s m #[Value.ref b] below meth c H locs 91 NS Q (F0 m 785 ls [])) : W p l e R s m #[Value.ref b] below meth c H locs 91 NS Q (F0 m 354 ls []) := by
  obtain ⟨hx, hb, hr, hml, hown, hts, hX, hbl, hlk⟩ := id C0
  have htsW : ∀ w ∈ wsL_law, w.before #[Value.ref b] s = true := fun w h => hts w (wsL_in w h)
  have hNw : gNw s := gNw_of hts
  have hA : ∀ q, s.heap.size ≤ q → lwF s q := fun _ h => h
  have hbA : ¬ lwF s b := Nat.not_le.mpr hbl
  refine lv_aload_n hx hb dL_law_354 rfl (lv_at hl 2 rfl) ?_
  refine lv_aload_n hx hb dL_law_355 rfl (lv_at hl 3 rfl) ?_
  refine lv_iload_n hx hb dL_law_356 rfl (lv_at hl 0 rfl) ?_
  refine lv_iconst (v := iz 1) hx hb dL_law_357 rfl ?_
  refine g_iadd hx hb dL_law_358 ?_
  refine g_sld hx hb hX hbl hbA G.2.2.2 (j := i + 1) (by omega) (by omega) (by omega) dL_law_359 ?_
  have st := st_undefine hI (inR_toInt (xs (i + 1).toNat))
  refine g_callVi (rest := []) hx hb hml htsW hown hNw hA G [.int (iz (xs (i + 1).toNat).toInt)] (c_X6_undefine l w σ _ ((xs (i + 1).toNat).toInt) st.1) sh_0 rfl wm_287 wm_288 wm_289 wm_2 wm_290 hd_X6_undefine ⟨rfl, rfl, Nat.le_trans (show rm_X6_undefine.frames + 1 ≤ 9 from (Nat.le_of_ble_eq_true rfl)) hF, Nat.le_trans (show 8 + (3 + 11) + rm_X6_undefine.locals ≤ 207 from (Nat.le_of_ble_eq_true rfl)) hLo⟩ rfl hl.1 (Nat.le_of_ble_eq_true rfl) rfl dL_law_360 hcs (fun r s1 H locs h G => ?_)
  obtain ⟨hp7, hst⟩ := st.2 r s1 h
  refine lv_aload_n hx hb dL_law_363 rfl (lv_at hl 1 rfl) ?_
  refine lv_aload_n hx hb dL_law_364 rfl (lv_at hl 3 rfl) ?_
  refine lv_iload_n hx hb dL_law_365 rfl (lv_at hl 0 rfl) ?_
  refine lv_iconst (v := iz 1) hx hb dL_law_366 rfl ?_
  refine g_iadd hx hb dL_law_367 ?_
  refine g_sld hx hb hX hbl hbA G.2.2.2 (j := i + 1) (by omega) (by omega) (by omega) dL_law_368 ?_
  refine g_callVi (rest := [.int (iz r)]) hx hb hml htsW hown hNw hA G [.int (iz (xs (i + 1).toNat).toInt)] (c_X7_undefine l w s1 _ ((xs (i + 1).toNat).toInt) hp7) sh_80 rfl wm_295 wm_296 wm_297 wm_5 wm_298 hd_X7_undefine ⟨rfl, rfl, Nat.le_trans (show rm_X7_undefine.frames + 1 ≤ 9 from (Nat.le_of_ble_eq_true rfl)) hF, Nat.le_trans (show 8 + (3 + 11) + rm_X7_undefine.locals ≤ 207 from (Nat.le_of_ble_eq_true rfl)) hLo⟩ rfl hl.1 (Nat.le_of_ble_eq_true rfl) rfl dL_law_369 hcs (fun r2 s2 H locs h G => ?_)
  obtain ⟨er, hI2⟩ := hst r2 s2 h
  exact lv_icmp_eq (tgt := 785) hx hb dL_law_372 (by decide) (fun _ => nx s2 H locs hI2 G) (fun q => absurd (congrArg iz er.symm) q)
set_option maxHeartbeats 4000000 in
set_option maxRecDepth 100000 in
theorem lc_9 {p : Program} {l : Launch} {e : Env} {R : Room} {s : State} {m : MethodId} {below : List Frame} {meth : Method} {c : Code} {b L NS : Nat} {xs : Nat → Int32} {w : GW} {Q : State → Prop} (hF : 9 ≤ R.frames) (hLo : 207 ≤ R.locals) (hcs : 91 ≤ R.cells ∧ NS ≤ R.slots) (hL : L ≤ 1536) (C0 : lwA p s m meth c b L xs) {k : Nat} {i : Int} {σ : St} {H : Heap} {locs : List Loc} {ls : Array Slot} (hi0 : 0 ≤ i) (hiL : i + 3 ≤ (L : Int)) (hk : k ≤ 1000) (hI : Inv k σ) (G : gS w gSL σ (lwF s) s s.heap H locs) (hl : lv_has ls 4 [(3, .int (iz i)), (2, .ref (gad w 80)), (1, .ref (gad w 0)), (0, .ref b)]) (nx : ∀ (σ : St) (H : Heap) (locs : List Loc), Inv (k + 1) σ → gS w gSL σ (lwF s) s s.heap H locs → W p l e R s m #[Value.ref b] below meth c H locs 91 NS Q (F0 m 785 ls [])) : W p l e R s m #[Value.ref b] below meth c H locs 91 NS Q (F0 m 377 ls []) := by
  obtain ⟨hx, hb, hr, hml, hown, hts, hX, hbl, hlk⟩ := id C0
  have htsW : ∀ w ∈ wsL_law, w.before #[Value.ref b] s = true := fun w h => hts w (wsL_in w h)
  have hNw : gNw s := gNw_of hts
  have hA : ∀ q, s.heap.size ≤ q → lwF s q := fun _ h => h
  have hbA : ¬ lwF s b := Nat.not_le.mpr hbl
  refine lv_aload_n hx hb dL_law_377 rfl (lv_at hl 2 rfl) ?_
  refine lv_aload_n hx hb dL_law_378 rfl (lv_at hl 3 rfl) ?_
  refine lv_iload_n hx hb dL_law_379 rfl (lv_at hl 0 rfl) ?_
  refine lv_iconst (v := iz 1) hx hb dL_law_380 rfl ?_
  refine g_iadd hx hb dL_law_381 ?_
  refine g_sld hx hb hX hbl hbA G.2.2.2 (j := i + 1) (by omega) (by omega) (by omega) dL_law_382 ?_
  refine lv_aload_n hx hb dL_law_383 rfl (lv_at hl 3 rfl) ?_
  refine lv_iload_n hx hb dL_law_384 rfl (lv_at hl 0 rfl) ?_
  refine lv_iconst (v := iz 2) hx hb dL_law_385 rfl ?_
  refine g_iadd hx hb dL_law_386 ?_
  refine g_sld hx hb hX hbl hbA G.2.2.2 (j := i + 2) (by omega) (by omega) (by omega) dL_law_387 ?_
  have st := st_setStop hI (inR_toInt (xs (i + 1).toNat)) (inR_toInt (xs (i + 2).toNat))
  refine g_callVi (rest := []) hx hb hml htsW hown hNw hA G [.int (iz (xs (i + 1).toNat).toInt), .int (iz (xs (i + 2).toNat).toInt)] (c_X6_setStop l w σ _ ((xs (i + 1).toNat).toInt) ((xs (i + 2).toNat).toInt) st.1) sh_0 rfl wm_299 wm_300 wm_301 wm_2 wm_302 hd_X6_setStop ⟨rfl, rfl, Nat.le_trans (show rm_X6_setStop.frames + 1 ≤ 9 from (Nat.le_of_ble_eq_true rfl)) hF, Nat.le_trans (show 8 + (4 + 11) + rm_X6_setStop.locals ≤ 207 from (Nat.le_of_ble_eq_true rfl)) hLo⟩ rfl hl.1 (Nat.le_of_ble_eq_true rfl) rfl dL_law_388 hcs (fun r s1 H locs h G => ?_)
  obtain ⟨hp7, hst⟩ := st.2 r s1 h
  refine lv_aload_n hx hb dL_law_391 rfl (lv_at hl 1 rfl) ?_
  refine lv_aload_n hx hb dL_law_392 rfl (lv_at hl 3 rfl) ?_
  refine lv_iload_n hx hb dL_law_393 rfl (lv_at hl 0 rfl) ?_
  refine lv_iconst (v := iz 1) hx hb dL_law_394 rfl ?_
  refine g_iadd hx hb dL_law_395 ?_
  refine g_sld hx hb hX hbl hbA G.2.2.2 (j := i + 1) (by omega) (by omega) (by omega) dL_law_396 ?_
  refine lv_aload_n hx hb dL_law_397 rfl (lv_at hl 3 rfl) ?_
  refine lv_iload_n hx hb dL_law_398 rfl (lv_at hl 0 rfl) ?_
  refine lv_iconst (v := iz 2) hx hb dL_law_399 rfl ?_
  refine g_iadd hx hb dL_law_400 ?_
  refine g_sld hx hb hX hbl hbA G.2.2.2 (j := i + 2) (by omega) (by omega) (by omega) dL_law_401 ?_
  refine g_callVi (rest := [.int (iz r)]) hx hb hml htsW hown hNw hA G [.int (iz (xs (i + 1).toNat).toInt), .int (iz (xs (i + 2).toNat).toInt)] (c_X7_setStop l w s1 _ ((xs (i + 1).toNat).toInt) ((xs (i + 2).toNat).toInt) hp7) sh_80 rfl wm_311 wm_312 wm_313 wm_5 wm_314 hd_X7_setStop ⟨rfl, rfl, Nat.le_trans (show rm_X7_setStop.frames + 1 ≤ 9 from (Nat.le_of_ble_eq_true rfl)) hF, Nat.le_trans (show 8 + (4 + 11) + rm_X7_setStop.locals ≤ 207 from (Nat.le_of_ble_eq_true rfl)) hLo⟩ rfl hl.1 (Nat.le_of_ble_eq_true rfl) rfl dL_law_402 hcs (fun r2 s2 H locs h G => ?_)
  obtain ⟨er, hI2⟩ := hst r2 s2 h
  exact lv_icmp_eq (tgt := 785) hx hb dL_law_405 (by decide) (fun _ => nx s2 H locs hI2 G) (fun q => absurd (congrArg iz er.symm) q)
set_option maxHeartbeats 4000000 in
set_option maxRecDepth 100000 in
theorem lc_10 {p : Program} {l : Launch} {e : Env} {R : Room} {s : State} {m : MethodId} {below : List Frame} {meth : Method} {c : Code} {b L NS : Nat} {xs : Nat → Int32} {w : GW} {Q : State → Prop} (hF : 9 ≤ R.frames) (hLo : 207 ≤ R.locals) (hcs : 91 ≤ R.cells ∧ NS ≤ R.slots) (hL : L ≤ 1536) (C0 : lwA p s m meth c b L xs) {k : Nat} {i : Int} {σ : St} {H : Heap} {locs : List Loc} {ls : Array Slot} (hi0 : 0 ≤ i) (hiL : i + 3 ≤ (L : Int)) (hk : k ≤ 1000) (hI : Inv k σ) (G : gS w gSL σ (lwF s) s s.heap H locs) (hl : lv_has ls 4 [(3, .int (iz i)), (2, .ref (gad w 80)), (1, .ref (gad w 0)), (0, .ref b)]) (nx : ∀ (σ : St) (H : Heap) (locs : List Loc), Inv (k + 1) σ → gS w gSL σ (lwF s) s s.heap H locs → W p l e R s m #[Value.ref b] below meth c H locs 91 NS Q (F0 m 785 ls [])) : W p l e R s m #[Value.ref b] below meth c H locs 91 NS Q (F0 m 410 ls []) := by
  obtain ⟨hx, hb, hr, hml, hown, hts, hX, hbl, hlk⟩ := id C0
  have htsW : ∀ w ∈ wsL_law, w.before #[Value.ref b] s = true := fun w h => hts w (wsL_in w h)
  have hNw : gNw s := gNw_of hts
  have hA : ∀ q, s.heap.size ≤ q → lwF s q := fun _ h => h
  have hbA : ¬ lwF s b := Nat.not_le.mpr hbl
  refine lv_aload_n hx hb dL_law_410 rfl (lv_at hl 2 rfl) ?_
  refine lv_aload_n hx hb dL_law_411 rfl (lv_at hl 3 rfl) ?_
  refine lv_iload_n hx hb dL_law_412 rfl (lv_at hl 0 rfl) ?_
  refine lv_iconst (v := iz 1) hx hb dL_law_413 rfl ?_
  refine g_iadd hx hb dL_law_414 ?_
  refine g_sld hx hb hX hbl hbA G.2.2.2 (j := i + 1) (by omega) (by omega) (by omega) dL_law_415 ?_
  refine lv_aload_n hx hb dL_law_416 rfl (lv_at hl 3 rfl) ?_
  refine lv_iload_n hx hb dL_law_417 rfl (lv_at hl 0 rfl) ?_
  refine lv_iconst (v := iz 2) hx hb dL_law_418 rfl ?_
  refine g_iadd hx hb dL_law_419 ?_
  refine g_sld hx hb hX hbl hbA G.2.2.2 (j := i + 2) (by omega) (by omega) (by omega) dL_law_420 ?_
  have st := st_element hI (inR_toInt (xs (i + 1).toNat)) (inR_toInt (xs (i + 2).toNat))
  refine g_callVi (rest := []) hx hb hml htsW hown hNw hA G [.int (iz (xs (i + 1).toNat).toInt), .int (iz (xs (i + 2).toNat).toInt)] (c_X6_element l w σ _ ((xs (i + 1).toNat).toInt) ((xs (i + 2).toNat).toInt) st.1) sh_0 rfl wm_315 wm_316 wm_317 wm_2 wm_318 hd_X6_element ⟨rfl, rfl, Nat.le_trans (show rm_X6_element.frames + 1 ≤ 9 from (Nat.le_of_ble_eq_true rfl)) hF, Nat.le_trans (show 8 + (3 + 11) + rm_X6_element.locals ≤ 207 from (Nat.le_of_ble_eq_true rfl)) hLo⟩ rfl hl.1 (Nat.le_of_ble_eq_true rfl) rfl dL_law_421 hcs (fun r s1 H locs h G => ?_)
  obtain ⟨hp7, hst⟩ := st.2 r s1 h
  refine lv_aload_n hx hb dL_law_424 rfl (lv_at hl 1 rfl) ?_
  refine lv_aload_n hx hb dL_law_425 rfl (lv_at hl 3 rfl) ?_
  refine lv_iload_n hx hb dL_law_426 rfl (lv_at hl 0 rfl) ?_
  refine lv_iconst (v := iz 1) hx hb dL_law_427 rfl ?_
  refine g_iadd hx hb dL_law_428 ?_
  refine g_sld hx hb hX hbl hbA G.2.2.2 (j := i + 1) (by omega) (by omega) (by omega) dL_law_429 ?_
  refine lv_aload_n hx hb dL_law_430 rfl (lv_at hl 3 rfl) ?_
  refine lv_iload_n hx hb dL_law_431 rfl (lv_at hl 0 rfl) ?_
  refine lv_iconst (v := iz 2) hx hb dL_law_432 rfl ?_
  refine g_iadd hx hb dL_law_433 ?_
  refine g_sld hx hb hX hbl hbA G.2.2.2 (j := i + 2) (by omega) (by omega) (by omega) dL_law_434 ?_
  refine g_callVi (rest := [.int (iz r)]) hx hb hml htsW hown hNw hA G [.int (iz (xs (i + 1).toNat).toInt), .int (iz (xs (i + 2).toNat).toInt)] (c_X7_element l w s1 _ ((xs (i + 1).toNat).toInt) ((xs (i + 2).toNat).toInt) hp7) sh_80 rfl wm_323 wm_324 wm_325 wm_5 wm_326 hd_X7_element ⟨rfl, rfl, Nat.le_trans (show rm_X7_element.frames + 1 ≤ 9 from (Nat.le_of_ble_eq_true rfl)) hF, Nat.le_trans (show 8 + (3 + 11) + rm_X7_element.locals ≤ 207 from (Nat.le_of_ble_eq_true rfl)) hLo⟩ rfl hl.1 (Nat.le_of_ble_eq_true rfl) rfl dL_law_435 hcs (fun r2 s2 H locs h G => ?_)
  obtain ⟨er, hI2⟩ := hst r2 s2 h
  exact lv_icmp_eq (tgt := 785) hx hb dL_law_438 (by decide) (fun _ => nx s2 H locs hI2 G) (fun q => absurd (congrArg iz er.symm) q)
set_option maxHeartbeats 4000000 in
set_option maxRecDepth 100000 in
theorem lc_11 {p : Program} {l : Launch} {e : Env} {R : Room} {s : State} {m : MethodId} {below : List Frame} {meth : Method} {c : Code} {b L NS : Nat} {xs : Nat → Int32} {w : GW} {Q : State → Prop} (hF : 9 ≤ R.frames) (hLo : 207 ≤ R.locals) (hcs : 91 ≤ R.cells ∧ NS ≤ R.slots) (hL : L ≤ 1536) (C0 : lwA p s m meth c b L xs) {k : Nat} {i : Int} {σ : St} {H : Heap} {locs : List Loc} {ls : Array Slot} (hi0 : 0 ≤ i) (hiL : i + 3 ≤ (L : Int)) (hk : k ≤ 1000) (hI : Inv k σ) (G : gS w gSL σ (lwF s) s s.heap H locs) (hl : lv_has ls 4 [(3, .int (iz i)), (2, .ref (gad w 80)), (1, .ref (gad w 0)), (0, .ref b)]) (nx : ∀ (σ : St) (H : Heap) (locs : List Loc), Inv (k + 1) σ → gS w gSL σ (lwF s) s s.heap H locs → W p l e R s m #[Value.ref b] below meth c H locs 91 NS Q (F0 m 785 ls [])) : W p l e R s m #[Value.ref b] below meth c H locs 91 NS Q (F0 m 443 ls []) := by
  obtain ⟨hx, hb, hr, hml, hown, hts, hX, hbl, hlk⟩ := id C0
  have htsW : ∀ w ∈ wsL_law, w.before #[Value.ref b] s = true := fun w h => hts w (wsL_in w h)
  have hNw : gNw s := gNw_of hts
  have hA : ∀ q, s.heap.size ≤ q → lwF s q := fun _ h => h
  have hbA : ¬ lwF s b := Nat.not_le.mpr hbl
  refine lv_aload_n hx hb dL_law_443 rfl (lv_at hl 2 rfl) ?_
  refine lv_aload_n hx hb dL_law_444 rfl (lv_at hl 3 rfl) ?_
  refine lv_iload_n hx hb dL_law_445 rfl (lv_at hl 0 rfl) ?_
  refine lv_iconst (v := iz 1) hx hb dL_law_446 rfl ?_
  refine g_iadd hx hb dL_law_447 ?_
  refine g_sld hx hb hX hbl hbA G.2.2.2 (j := i + 1) (by omega) (by omega) (by omega) dL_law_448 ?_
  refine lv_aload_n hx hb dL_law_449 rfl (lv_at hl 3 rfl) ?_
  refine lv_iload_n hx hb dL_law_450 rfl (lv_at hl 0 rfl) ?_
  refine lv_iconst (v := iz 2) hx hb dL_law_451 rfl ?_
  refine g_iadd hx hb dL_law_452 ?_
  refine g_sld hx hb hX hbl hbA G.2.2.2 (j := i + 2) (by omega) (by omega) (by omega) dL_law_453 ?_
  have st := st_matchEnd hI (inR_toInt (xs (i + 1).toNat)) (inR_toInt (xs (i + 2).toNat))
  refine g_callVi (rest := []) hx hb hml htsW hown hNw hA G [.int (iz (xs (i + 1).toNat).toInt), .int (iz (xs (i + 2).toNat).toInt)] (c_X6_matchEnd l w σ _ ((xs (i + 1).toNat).toInt) ((xs (i + 2).toNat).toInt) st.1) sh_0 rfl wm_331 wm_332 wm_333 wm_2 wm_334 hd_X6_matchEnd ⟨rfl, rfl, Nat.le_trans (show rm_X6_matchEnd.frames + 1 ≤ 9 from (Nat.le_of_ble_eq_true rfl)) hF, Nat.le_trans (show 8 + (3 + 11) + rm_X6_matchEnd.locals ≤ 207 from (Nat.le_of_ble_eq_true rfl)) hLo⟩ rfl hl.1 (Nat.le_of_ble_eq_true rfl) rfl dL_law_454 hcs (fun r s1 H locs h G => ?_)
  obtain ⟨hp7, hst⟩ := st.2 r s1 h
  refine lv_aload_n hx hb dL_law_457 rfl (lv_at hl 1 rfl) ?_
  refine lv_aload_n hx hb dL_law_458 rfl (lv_at hl 3 rfl) ?_
  refine lv_iload_n hx hb dL_law_459 rfl (lv_at hl 0 rfl) ?_
  refine lv_iconst (v := iz 1) hx hb dL_law_460 rfl ?_
  refine g_iadd hx hb dL_law_461 ?_
  refine g_sld hx hb hX hbl hbA G.2.2.2 (j := i + 1) (by omega) (by omega) (by omega) dL_law_462 ?_
  refine lv_aload_n hx hb dL_law_463 rfl (lv_at hl 3 rfl) ?_
  refine lv_iload_n hx hb dL_law_464 rfl (lv_at hl 0 rfl) ?_
  refine lv_iconst (v := iz 2) hx hb dL_law_465 rfl ?_
  refine g_iadd hx hb dL_law_466 ?_
  refine g_sld hx hb hX hbl hbA G.2.2.2 (j := i + 2) (by omega) (by omega) (by omega) dL_law_467 ?_
  refine g_callVi (rest := [.int (iz r)]) hx hb hml htsW hown hNw hA G [.int (iz (xs (i + 1).toNat).toInt), .int (iz (xs (i + 2).toNat).toInt)] (c2_X7_matchEnd l w s1 _ ((xs (i + 1).toNat).toInt) ((xs (i + 2).toNat).toInt) hp7) sh_80 rfl wm_442 wm_443 wm_444 wm_5 wm_445 hd_X7_matchEnd ⟨rfl, rfl, Nat.le_trans (show rm_X7_matchEnd.frames + 1 ≤ 9 from (Nat.le_of_ble_eq_true rfl)) hF, Nat.le_trans (show 8 + (3 + 11) + rm_X7_matchEnd.locals ≤ 207 from (Nat.le_of_ble_eq_true rfl)) hLo⟩ rfl hl.1 (Nat.le_of_ble_eq_true rfl) rfl dL_law_468 hcs (fun r2 s2 H locs h G => ?_)
  obtain ⟨er, hI2⟩ := hst r2 s2 h
  exact lv_icmp_eq (tgt := 785) hx hb dL_law_471 (by decide) (fun _ => nx s2 H locs hI2 G) (fun q => absurd (congrArg iz er.symm) q)
set_option maxHeartbeats 4000000 in
set_option maxRecDepth 100000 in
theorem lc_12 {p : Program} {l : Launch} {e : Env} {R : Room} {s : State} {m : MethodId} {below : List Frame} {meth : Method} {c : Code} {b L NS : Nat} {xs : Nat → Int32} {w : GW} {Q : State → Prop} (hF : 9 ≤ R.frames) (hLo : 207 ≤ R.locals) (hcs : 91 ≤ R.cells ∧ NS ≤ R.slots) (hL : L ≤ 1536) (C0 : lwA p s m meth c b L xs) {k : Nat} {i : Int} {σ : St} {H : Heap} {locs : List Loc} {ls : Array Slot} (hi0 : 0 ≤ i) (hiL : i + 3 ≤ (L : Int)) (hk : k ≤ 1000) (hI : Inv k σ) (G : gS w gSL σ (lwF s) s s.heap H locs) (hl : lv_has ls 4 [(3, .int (iz i)), (2, .ref (gad w 80)), (1, .ref (gad w 0)), (0, .ref b)]) (nx : ∀ (σ : St) (H : Heap) (locs : List Loc), Inv (k + 1) σ → gS w gSL σ (lwF s) s s.heap H locs → W p l e R s m #[Value.ref b] below meth c H locs 91 NS Q (F0 m 785 ls [])) : W p l e R s m #[Value.ref b] below meth c H locs 91 NS Q (F0 m 476 ls []) := by
  obtain ⟨hx, hb, hr, hml, hown, hts, hX, hbl, hlk⟩ := id C0
  have htsW : ∀ w ∈ wsL_law, w.before #[Value.ref b] s = true := fun w h => hts w (wsL_in w h)
  have hNw : gNw s := gNw_of hts
  have hA : ∀ q, s.heap.size ≤ q → lwF s q := fun _ h => h
  have hbA : ¬ lwF s b := Nat.not_le.mpr hbl
  refine lv_aload_n hx hb dL_law_476 rfl (lv_at hl 2 rfl) ?_
  have st := st_nodeCount hI
  refine g_callVi (rest := []) hx hb hml htsW hown hNw hA G [] (c_X6_nodeCount l w σ _ st.1) sh_0 rfl wm_477 wm_478 wm_479 wm_2 wm_480 hd_X6_nodeCount ⟨rfl, rfl, Nat.le_trans (show rm_X6_nodeCount.frames + 1 ≤ 9 from (Nat.le_of_ble_eq_true rfl)) hF, Nat.le_trans (show 8 + (1 + 11) + rm_X6_nodeCount.locals ≤ 207 from (Nat.le_of_ble_eq_true rfl)) hLo⟩ rfl hl.1 (Nat.le_of_ble_eq_true rfl) rfl dL_law_477 hcs (fun r s1 H locs h G => ?_)
  obtain ⟨hp7, hst⟩ := st.2 r s1 h
  refine lv_aload_n hx hb dL_law_480 rfl (lv_at hl 1 rfl) ?_
  refine g_callVi (rest := [.int (iz r)]) hx hb hml htsW hown hNw hA G [] (c_X7_nodeCount l w s1 _ hp7) sh_80 rfl wm_485 wm_486 wm_487 wm_5 wm_488 hd_X7_nodeCount ⟨rfl, rfl, Nat.le_trans (show rm_X7_nodeCount.frames + 1 ≤ 9 from (Nat.le_of_ble_eq_true rfl)) hF, Nat.le_trans (show 8 + (1 + 11) + rm_X7_nodeCount.locals ≤ 207 from (Nat.le_of_ble_eq_true rfl)) hLo⟩ rfl hl.1 (Nat.le_of_ble_eq_true rfl) rfl dL_law_481 hcs (fun r2 s2 H locs h G => ?_)
  obtain ⟨er, hI2⟩ := hst r2 s2 h
  exact lv_icmp_eq (tgt := 785) hx hb dL_law_484 (by decide) (fun _ => nx s2 H locs hI2 G) (fun q => absurd (congrArg iz er.symm) q)
set_option maxHeartbeats 4000000 in
set_option maxRecDepth 100000 in
theorem lc_13 {p : Program} {l : Launch} {e : Env} {R : Room} {s : State} {m : MethodId} {below : List Frame} {meth : Method} {c : Code} {b L NS : Nat} {xs : Nat → Int32} {w : GW} {Q : State → Prop} (hF : 9 ≤ R.frames) (hLo : 207 ≤ R.locals) (hcs : 91 ≤ R.cells ∧ NS ≤ R.slots) (hL : L ≤ 1536) (C0 : lwA p s m meth c b L xs) {k : Nat} {i : Int} {σ : St} {H : Heap} {locs : List Loc} {ls : Array Slot} (hi0 : 0 ≤ i) (hiL : i + 3 ≤ (L : Int)) (hk : k ≤ 1000) (hI : Inv k σ) (G : gS w gSL σ (lwF s) s s.heap H locs) (hl : lv_has ls 4 [(3, .int (iz i)), (2, .ref (gad w 80)), (1, .ref (gad w 0)), (0, .ref b)]) (nx : ∀ (σ : St) (H : Heap) (locs : List Loc), Inv (k + 1) σ → gS w gSL σ (lwF s) s s.heap H locs → W p l e R s m #[Value.ref b] below meth c H locs 91 NS Q (F0 m 785 ls [])) : W p l e R s m #[Value.ref b] below meth c H locs 91 NS Q (F0 m 489 ls []) := by
  obtain ⟨hx, hb, hr, hml, hown, hts, hX, hbl, hlk⟩ := id C0
  have htsW : ∀ w ∈ wsL_law, w.before #[Value.ref b] s = true := fun w h => hts w (wsL_in w h)
  have hNw : gNw s := gNw_of hts
  have hA : ∀ q, s.heap.size ≤ q → lwF s q := fun _ h => h
  have hbA : ¬ lwF s b := Nat.not_le.mpr hbl
  refine lv_aload_n hx hb dL_law_489 rfl (lv_at hl 2 rfl) ?_
  have st := st_islandCount hI
  refine g_callVi (rest := []) hx hb hml htsW hown hNw hA G [] (c_X6_islandCount l w σ _ st.1) sh_0 rfl wm_514 wm_515 wm_516 wm_2 wm_517 hd_X6_islandCount ⟨rfl, rfl, Nat.le_trans (show rm_X6_islandCount.frames + 1 ≤ 9 from (Nat.le_of_ble_eq_true rfl)) hF, Nat.le_trans (show 8 + (1 + 11) + rm_X6_islandCount.locals ≤ 207 from (Nat.le_of_ble_eq_true rfl)) hLo⟩ rfl hl.1 (Nat.le_of_ble_eq_true rfl) rfl dL_law_490 hcs (fun r s1 H locs h G => ?_)
  obtain ⟨hp7, hst⟩ := st.2 r s1 h
  refine lv_aload_n hx hb dL_law_493 rfl (lv_at hl 1 rfl) ?_
  refine g_callVi (rest := [.int (iz r)]) hx hb hml htsW hown hNw hA G [] (c_X7_islandCount l w s1 _ hp7) sh_80 rfl wm_522 wm_523 wm_524 wm_5 wm_525 hd_X7_islandCount ⟨rfl, rfl, Nat.le_trans (show rm_X7_islandCount.frames + 1 ≤ 9 from (Nat.le_of_ble_eq_true rfl)) hF, Nat.le_trans (show 8 + (1 + 11) + rm_X7_islandCount.locals ≤ 207 from (Nat.le_of_ble_eq_true rfl)) hLo⟩ rfl hl.1 (Nat.le_of_ble_eq_true rfl) rfl dL_law_494 hcs (fun r2 s2 H locs h G => ?_)
  obtain ⟨er, hI2⟩ := hst r2 s2 h
  exact lv_icmp_eq (tgt := 785) hx hb dL_law_497 (by decide) (fun _ => nx s2 H locs hI2 G) (fun q => absurd (congrArg iz er.symm) q)
set_option maxHeartbeats 4000000 in
set_option maxRecDepth 100000 in
theorem lc_14 {p : Program} {l : Launch} {e : Env} {R : Room} {s : State} {m : MethodId} {below : List Frame} {meth : Method} {c : Code} {b L NS : Nat} {xs : Nat → Int32} {w : GW} {Q : State → Prop} (hF : 9 ≤ R.frames) (hLo : 207 ≤ R.locals) (hcs : 91 ≤ R.cells ∧ NS ≤ R.slots) (hL : L ≤ 1536) (C0 : lwA p s m meth c b L xs) {k : Nat} {i : Int} {σ : St} {H : Heap} {locs : List Loc} {ls : Array Slot} (hi0 : 0 ≤ i) (hiL : i + 3 ≤ (L : Int)) (hk : k ≤ 1000) (hI : Inv k σ) (G : gS w gSL σ (lwF s) s s.heap H locs) (hl : lv_has ls 4 [(3, .int (iz i)), (2, .ref (gad w 80)), (1, .ref (gad w 0)), (0, .ref b)]) (nx : ∀ (σ : St) (H : Heap) (locs : List Loc), Inv (k + 1) σ → gS w gSL σ (lwF s) s s.heap H locs → W p l e R s m #[Value.ref b] below meth c H locs 91 NS Q (F0 m 785 ls [])) : W p l e R s m #[Value.ref b] below meth c H locs 91 NS Q (F0 m 502 ls []) := by
  obtain ⟨hx, hb, hr, hml, hown, hts, hX, hbl, hlk⟩ := id C0
  have htsW : ∀ w ∈ wsL_law, w.before #[Value.ref b] s = true := fun w h => hts w (wsL_in w h)
  have hNw : gNw s := gNw_of hts
  have hA : ∀ q, s.heap.size ≤ q → lwF s q := fun _ h => h
  have hbA : ¬ lwF s b := Nat.not_le.mpr hbl
  refine lv_aload_n hx hb dL_law_502 rfl (lv_at hl 2 rfl) ?_
  refine lv_aload_n hx hb dL_law_503 rfl (lv_at hl 3 rfl) ?_
  refine lv_iload_n hx hb dL_law_504 rfl (lv_at hl 0 rfl) ?_
  refine lv_iconst (v := iz 1) hx hb dL_law_505 rfl ?_
  refine g_iadd hx hb dL_law_506 ?_
  refine g_sld hx hb hX hbl hbA G.2.2.2 (j := i + 1) (by omega) (by omega) (by omega) dL_law_507 ?_
  have st := st_nodeRule hI (inR_toInt (xs (i + 1).toNat))
  refine g_callVi (rest := []) hx hb hml htsW hown hNw hA G [.int (iz (xs (i + 1).toNat).toInt)] (c_X6_nodeRule l w σ _ ((xs (i + 1).toNat).toInt) st.1) sh_0 rfl wm_526 wm_527 wm_528 wm_2 wm_529 hd_X6_nodeRule ⟨rfl, rfl, Nat.le_trans (show rm_X6_nodeRule.frames + 1 ≤ 9 from (Nat.le_of_ble_eq_true rfl)) hF, Nat.le_trans (show 8 + (2 + 11) + rm_X6_nodeRule.locals ≤ 207 from (Nat.le_of_ble_eq_true rfl)) hLo⟩ rfl hl.1 (Nat.le_of_ble_eq_true rfl) rfl dL_law_508 hcs (fun r s1 H locs h G => ?_)
  obtain ⟨hp7, hst⟩ := st.2 r s1 h
  refine lv_aload_n hx hb dL_law_511 rfl (lv_at hl 1 rfl) ?_
  refine lv_aload_n hx hb dL_law_512 rfl (lv_at hl 3 rfl) ?_
  refine lv_iload_n hx hb dL_law_513 rfl (lv_at hl 0 rfl) ?_
  refine lv_iconst (v := iz 1) hx hb dL_law_514 rfl ?_
  refine g_iadd hx hb dL_law_515 ?_
  refine g_sld hx hb hX hbl hbA G.2.2.2 (j := i + 1) (by omega) (by omega) (by omega) dL_law_516 ?_
  refine g_callVi (rest := [.int (iz r)]) hx hb hml htsW hown hNw hA G [.int (iz (xs (i + 1).toNat).toInt)] (c_X7_nodeRule l w s1 _ ((xs (i + 1).toNat).toInt) hp7) sh_80 rfl wm_538 wm_539 wm_540 wm_5 wm_541 hd_X7_nodeRule ⟨rfl, rfl, Nat.le_trans (show rm_X7_nodeRule.frames + 1 ≤ 9 from (Nat.le_of_ble_eq_true rfl)) hF, Nat.le_trans (show 8 + (2 + 11) + rm_X7_nodeRule.locals ≤ 207 from (Nat.le_of_ble_eq_true rfl)) hLo⟩ rfl hl.1 (Nat.le_of_ble_eq_true rfl) rfl dL_law_517 hcs (fun r2 s2 H locs h G => ?_)
  obtain ⟨er, hI2⟩ := hst r2 s2 h
  exact lv_icmp_eq (tgt := 785) hx hb dL_law_520 (by decide) (fun _ => nx s2 H locs hI2 G) (fun q => absurd (congrArg iz er.symm) q)
set_option maxHeartbeats 4000000 in
set_option maxRecDepth 100000 in
theorem lc_15 {p : Program} {l : Launch} {e : Env} {R : Room} {s : State} {m : MethodId} {below : List Frame} {meth : Method} {c : Code} {b L NS : Nat} {xs : Nat → Int32} {w : GW} {Q : State → Prop} (hF : 9 ≤ R.frames) (hLo : 207 ≤ R.locals) (hcs : 91 ≤ R.cells ∧ NS ≤ R.slots) (hL : L ≤ 1536) (C0 : lwA p s m meth c b L xs) {k : Nat} {i : Int} {σ : St} {H : Heap} {locs : List Loc} {ls : Array Slot} (hi0 : 0 ≤ i) (hiL : i + 3 ≤ (L : Int)) (hk : k ≤ 1000) (hI : Inv k σ) (G : gS w gSL σ (lwF s) s s.heap H locs) (hl : lv_has ls 4 [(3, .int (iz i)), (2, .ref (gad w 80)), (1, .ref (gad w 0)), (0, .ref b)]) (nx : ∀ (σ : St) (H : Heap) (locs : List Loc), Inv (k + 1) σ → gS w gSL σ (lwF s) s s.heap H locs → W p l e R s m #[Value.ref b] below meth c H locs 91 NS Q (F0 m 785 ls [])) : W p l e R s m #[Value.ref b] below meth c H locs 91 NS Q (F0 m 525 ls []) := by
  obtain ⟨hx, hb, hr, hml, hown, hts, hX, hbl, hlk⟩ := id C0
  have htsW : ∀ w ∈ wsL_law, w.before #[Value.ref b] s = true := fun w h => hts w (wsL_in w h)
  have hNw : gNw s := gNw_of hts
  have hA : ∀ q, s.heap.size ≤ q → lwF s q := fun _ h => h
  have hbA : ¬ lwF s b := Nat.not_le.mpr hbl
  refine lv_aload_n hx hb dL_law_525 rfl (lv_at hl 2 rfl) ?_
  refine lv_aload_n hx hb dL_law_526 rfl (lv_at hl 3 rfl) ?_
  refine lv_iload_n hx hb dL_law_527 rfl (lv_at hl 0 rfl) ?_
  refine lv_iconst (v := iz 1) hx hb dL_law_528 rfl ?_
  refine g_iadd hx hb dL_law_529 ?_
  refine g_sld hx hb hX hbl hbA G.2.2.2 (j := i + 1) (by omega) (by omega) (by omega) dL_law_530 ?_
  have st := st_nodeStart hI (inR_toInt (xs (i + 1).toNat))
  refine g_callVi (rest := []) hx hb hml htsW hown hNw hA G [.int (iz (xs (i + 1).toNat).toInt)] (c_X6_nodeStart l w σ _ ((xs (i + 1).toNat).toInt) st.1) sh_0 rfl wm_566 wm_567 wm_568 wm_2 wm_569 hd_X6_nodeStart ⟨rfl, rfl, Nat.le_trans (show rm_X6_nodeStart.frames + 1 ≤ 9 from (Nat.le_of_ble_eq_true rfl)) hF, Nat.le_trans (show 8 + (2 + 11) + rm_X6_nodeStart.locals ≤ 207 from (Nat.le_of_ble_eq_true rfl)) hLo⟩ rfl hl.1 (Nat.le_of_ble_eq_true rfl) rfl dL_law_531 hcs (fun r s1 H locs h G => ?_)
  obtain ⟨hp7, hst⟩ := st.2 r s1 h
  refine lv_aload_n hx hb dL_law_534 rfl (lv_at hl 1 rfl) ?_
  refine lv_aload_n hx hb dL_law_535 rfl (lv_at hl 3 rfl) ?_
  refine lv_iload_n hx hb dL_law_536 rfl (lv_at hl 0 rfl) ?_
  refine lv_iconst (v := iz 1) hx hb dL_law_537 rfl ?_
  refine g_iadd hx hb dL_law_538 ?_
  refine g_sld hx hb hX hbl hbA G.2.2.2 (j := i + 1) (by omega) (by omega) (by omega) dL_law_539 ?_
  refine g_callVi (rest := [.int (iz r)]) hx hb hml htsW hown hNw hA G [.int (iz (xs (i + 1).toNat).toInt)] (c_X7_nodeStart l w s1 _ ((xs (i + 1).toNat).toInt) hp7) sh_80 rfl wm_574 wm_575 wm_576 wm_5 wm_577 hd_X7_nodeStart ⟨rfl, rfl, Nat.le_trans (show rm_X7_nodeStart.frames + 1 ≤ 9 from (Nat.le_of_ble_eq_true rfl)) hF, Nat.le_trans (show 8 + (2 + 11) + rm_X7_nodeStart.locals ≤ 207 from (Nat.le_of_ble_eq_true rfl)) hLo⟩ rfl hl.1 (Nat.le_of_ble_eq_true rfl) rfl dL_law_540 hcs (fun r2 s2 H locs h G => ?_)
  obtain ⟨er, hI2⟩ := hst r2 s2 h
  exact lv_icmp_eq (tgt := 785) hx hb dL_law_543 (by decide) (fun _ => nx s2 H locs hI2 G) (fun q => absurd (congrArg iz er.symm) q)
set_option maxHeartbeats 4000000 in
set_option maxRecDepth 100000 in
theorem lc_16 {p : Program} {l : Launch} {e : Env} {R : Room} {s : State} {m : MethodId} {below : List Frame} {meth : Method} {c : Code} {b L NS : Nat} {xs : Nat → Int32} {w : GW} {Q : State → Prop} (hF : 9 ≤ R.frames) (hLo : 207 ≤ R.locals) (hcs : 91 ≤ R.cells ∧ NS ≤ R.slots) (hL : L ≤ 1536) (C0 : lwA p s m meth c b L xs) {k : Nat} {i : Int} {σ : St} {H : Heap} {locs : List Loc} {ls : Array Slot} (hi0 : 0 ≤ i) (hiL : i + 3 ≤ (L : Int)) (hk : k ≤ 1000) (hI : Inv k σ) (G : gS w gSL σ (lwF s) s s.heap H locs) (hl : lv_has ls 4 [(3, .int (iz i)), (2, .ref (gad w 80)), (1, .ref (gad w 0)), (0, .ref b)]) (nx : ∀ (σ : St) (H : Heap) (locs : List Loc), Inv (k + 1) σ → gS w gSL σ (lwF s) s s.heap H locs → W p l e R s m #[Value.ref b] below meth c H locs 91 NS Q (F0 m 785 ls [])) : W p l e R s m #[Value.ref b] below meth c H locs 91 NS Q (F0 m 548 ls []) := by
  obtain ⟨hx, hb, hr, hml, hown, hts, hX, hbl, hlk⟩ := id C0
  have htsW : ∀ w ∈ wsL_law, w.before #[Value.ref b] s = true := fun w h => hts w (wsL_in w h)
  have hNw : gNw s := gNw_of hts
  have hA : ∀ q, s.heap.size ≤ q → lwF s q := fun _ h => h
  have hbA : ¬ lwF s b := Nat.not_le.mpr hbl
  refine lv_aload_n hx hb dL_law_548 rfl (lv_at hl 2 rfl) ?_
  refine lv_aload_n hx hb dL_law_549 rfl (lv_at hl 3 rfl) ?_
  refine lv_iload_n hx hb dL_law_550 rfl (lv_at hl 0 rfl) ?_
  refine lv_iconst (v := iz 1) hx hb dL_law_551 rfl ?_
  refine g_iadd hx hb dL_law_552 ?_
  refine g_sld hx hb hX hbl hbA G.2.2.2 (j := i + 1) (by omega) (by omega) (by omega) dL_law_553 ?_
  have st := st_nodeEnd hI (inR_toInt (xs (i + 1).toNat))
  refine g_callVi (rest := []) hx hb hml htsW hown hNw hA G [.int (iz (xs (i + 1).toNat).toInt)] (c_X6_nodeEnd l w σ _ ((xs (i + 1).toNat).toInt) st.1) sh_0 rfl wm_578 wm_579 wm_580 wm_2 wm_581 hd_X6_nodeEnd ⟨rfl, rfl, Nat.le_trans (show rm_X6_nodeEnd.frames + 1 ≤ 9 from (Nat.le_of_ble_eq_true rfl)) hF, Nat.le_trans (show 8 + (2 + 11) + rm_X6_nodeEnd.locals ≤ 207 from (Nat.le_of_ble_eq_true rfl)) hLo⟩ rfl hl.1 (Nat.le_of_ble_eq_true rfl) rfl dL_law_554 hcs (fun r s1 H locs h G => ?_)
  obtain ⟨hp7, hst⟩ := st.2 r s1 h
  refine lv_aload_n hx hb dL_law_557 rfl (lv_at hl 1 rfl) ?_
  refine lv_aload_n hx hb dL_law_558 rfl (lv_at hl 3 rfl) ?_
  refine lv_iload_n hx hb dL_law_559 rfl (lv_at hl 0 rfl) ?_
  refine lv_iconst (v := iz 1) hx hb dL_law_560 rfl ?_
  refine g_iadd hx hb dL_law_561 ?_
  refine g_sld hx hb hX hbl hbA G.2.2.2 (j := i + 1) (by omega) (by omega) (by omega) dL_law_562 ?_
  refine g_callVi (rest := [.int (iz r)]) hx hb hml htsW hown hNw hA G [.int (iz (xs (i + 1).toNat).toInt)] (c_X7_nodeEnd l w s1 _ ((xs (i + 1).toNat).toInt) hp7) sh_80 rfl wm_586 wm_587 wm_588 wm_5 wm_589 hd_X7_nodeEnd ⟨rfl, rfl, Nat.le_trans (show rm_X7_nodeEnd.frames + 1 ≤ 9 from (Nat.le_of_ble_eq_true rfl)) hF, Nat.le_trans (show 8 + (2 + 11) + rm_X7_nodeEnd.locals ≤ 207 from (Nat.le_of_ble_eq_true rfl)) hLo⟩ rfl hl.1 (Nat.le_of_ble_eq_true rfl) rfl dL_law_563 hcs (fun r2 s2 H locs h G => ?_)
  obtain ⟨er, hI2⟩ := hst r2 s2 h
  exact lv_icmp_eq (tgt := 785) hx hb dL_law_566 (by decide) (fun _ => nx s2 H locs hI2 G) (fun q => absurd (congrArg iz er.symm) q)
set_option maxHeartbeats 4000000 in
set_option maxRecDepth 100000 in
theorem lc_17 {p : Program} {l : Launch} {e : Env} {R : Room} {s : State} {m : MethodId} {below : List Frame} {meth : Method} {c : Code} {b L NS : Nat} {xs : Nat → Int32} {w : GW} {Q : State → Prop} (hF : 9 ≤ R.frames) (hLo : 207 ≤ R.locals) (hcs : 91 ≤ R.cells ∧ NS ≤ R.slots) (hL : L ≤ 1536) (C0 : lwA p s m meth c b L xs) {k : Nat} {i : Int} {σ : St} {H : Heap} {locs : List Loc} {ls : Array Slot} (hi0 : 0 ≤ i) (hiL : i + 3 ≤ (L : Int)) (hk : k ≤ 1000) (hI : Inv k σ) (G : gS w gSL σ (lwF s) s s.heap H locs) (hl : lv_has ls 4 [(3, .int (iz i)), (2, .ref (gad w 80)), (1, .ref (gad w 0)), (0, .ref b)]) (nx : ∀ (σ : St) (H : Heap) (locs : List Loc), Inv (k + 1) σ → gS w gSL σ (lwF s) s s.heap H locs → W p l e R s m #[Value.ref b] below meth c H locs 91 NS Q (F0 m 785 ls [])) : W p l e R s m #[Value.ref b] below meth c H locs 91 NS Q (F0 m 571 ls []) := by
  obtain ⟨hx, hb, hr, hml, hown, hts, hX, hbl, hlk⟩ := id C0
  have htsW : ∀ w ∈ wsL_law, w.before #[Value.ref b] s = true := fun w h => hts w (wsL_in w h)
  have hNw : gNw s := gNw_of hts
  have hA : ∀ q, s.heap.size ≤ q → lwF s q := fun _ h => h
  have hbA : ¬ lwF s b := Nat.not_le.mpr hbl
  refine lv_aload_n hx hb dL_law_571 rfl (lv_at hl 2 rfl) ?_
  refine lv_aload_n hx hb dL_law_572 rfl (lv_at hl 3 rfl) ?_
  refine lv_iload_n hx hb dL_law_573 rfl (lv_at hl 0 rfl) ?_
  refine lv_iconst (v := iz 1) hx hb dL_law_574 rfl ?_
  refine g_iadd hx hb dL_law_575 ?_
  refine g_sld hx hb hX hbl hbA G.2.2.2 (j := i + 1) (by omega) (by omega) (by omega) dL_law_576 ?_
  have st := st_nodeParent hI (inR_toInt (xs (i + 1).toNat))
  refine g_callVi (rest := []) hx hb hml htsW hown hNw hA G [.int (iz (xs (i + 1).toNat).toInt)] (c_X6_nodeParent l w σ _ ((xs (i + 1).toNat).toInt) st.1) sh_0 rfl wm_590 wm_591 wm_592 wm_2 wm_593 hd_X6_nodeParent ⟨rfl, rfl, Nat.le_trans (show rm_X6_nodeParent.frames + 1 ≤ 9 from (Nat.le_of_ble_eq_true rfl)) hF, Nat.le_trans (show 8 + (2 + 11) + rm_X6_nodeParent.locals ≤ 207 from (Nat.le_of_ble_eq_true rfl)) hLo⟩ rfl hl.1 (Nat.le_of_ble_eq_true rfl) rfl dL_law_577 hcs (fun r s1 H locs h G => ?_)
  obtain ⟨hp7, hst⟩ := st.2 r s1 h
  refine lv_aload_n hx hb dL_law_580 rfl (lv_at hl 1 rfl) ?_
  refine lv_aload_n hx hb dL_law_581 rfl (lv_at hl 3 rfl) ?_
  refine lv_iload_n hx hb dL_law_582 rfl (lv_at hl 0 rfl) ?_
  refine lv_iconst (v := iz 1) hx hb dL_law_583 rfl ?_
  refine g_iadd hx hb dL_law_584 ?_
  refine g_sld hx hb hX hbl hbA G.2.2.2 (j := i + 1) (by omega) (by omega) (by omega) dL_law_585 ?_
  refine g_callVi (rest := [.int (iz r)]) hx hb hml htsW hown hNw hA G [.int (iz (xs (i + 1).toNat).toInt)] (c_X7_nodeParent l w s1 _ ((xs (i + 1).toNat).toInt) hp7) sh_80 rfl wm_598 wm_599 wm_600 wm_5 wm_601 hd_X7_nodeParent ⟨rfl, rfl, Nat.le_trans (show rm_X7_nodeParent.frames + 1 ≤ 9 from (Nat.le_of_ble_eq_true rfl)) hF, Nat.le_trans (show 8 + (2 + 11) + rm_X7_nodeParent.locals ≤ 207 from (Nat.le_of_ble_eq_true rfl)) hLo⟩ rfl hl.1 (Nat.le_of_ble_eq_true rfl) rfl dL_law_586 hcs (fun r2 s2 H locs h G => ?_)
  obtain ⟨er, hI2⟩ := hst r2 s2 h
  exact lv_icmp_eq (tgt := 785) hx hb dL_law_589 (by decide) (fun _ => nx s2 H locs hI2 G) (fun q => absurd (congrArg iz er.symm) q)
set_option maxHeartbeats 4000000 in
set_option maxRecDepth 100000 in
theorem lc_18 {p : Program} {l : Launch} {e : Env} {R : Room} {s : State} {m : MethodId} {below : List Frame} {meth : Method} {c : Code} {b L NS : Nat} {xs : Nat → Int32} {w : GW} {Q : State → Prop} (hF : 9 ≤ R.frames) (hLo : 207 ≤ R.locals) (hcs : 91 ≤ R.cells ∧ NS ≤ R.slots) (hL : L ≤ 1536) (C0 : lwA p s m meth c b L xs) {k : Nat} {i : Int} {σ : St} {H : Heap} {locs : List Loc} {ls : Array Slot} (hi0 : 0 ≤ i) (hiL : i + 3 ≤ (L : Int)) (hk : k ≤ 1000) (hI : Inv k σ) (G : gS w gSL σ (lwF s) s s.heap H locs) (hl : lv_has ls 4 [(3, .int (iz i)), (2, .ref (gad w 80)), (1, .ref (gad w 0)), (0, .ref b)]) (nx : ∀ (σ : St) (H : Heap) (locs : List Loc), Inv (k + 1) σ → gS w gSL σ (lwF s) s s.heap H locs → W p l e R s m #[Value.ref b] below meth c H locs 91 NS Q (F0 m 785 ls [])) : W p l e R s m #[Value.ref b] below meth c H locs 91 NS Q (F0 m 594 ls []) := by
  obtain ⟨hx, hb, hr, hml, hown, hts, hX, hbl, hlk⟩ := id C0
  have htsW : ∀ w ∈ wsL_law, w.before #[Value.ref b] s = true := fun w h => hts w (wsL_in w h)
  have hNw : gNw s := gNw_of hts
  have hA : ∀ q, s.heap.size ≤ q → lwF s q := fun _ h => h
  have hbA : ¬ lwF s b := Nat.not_le.mpr hbl
  refine lv_aload_n hx hb dL_law_594 rfl (lv_at hl 2 rfl) ?_
  refine lv_aload_n hx hb dL_law_595 rfl (lv_at hl 3 rfl) ?_
  refine lv_iload_n hx hb dL_law_596 rfl (lv_at hl 0 rfl) ?_
  refine lv_iconst (v := iz 1) hx hb dL_law_597 rfl ?_
  refine g_iadd hx hb dL_law_598 ?_
  refine g_sld hx hb hX hbl hbA G.2.2.2 (j := i + 1) (by omega) (by omega) (by omega) dL_law_599 ?_
  have st := st_nodeDepth hI (inR_toInt (xs (i + 1).toNat))
  refine g_callVi (rest := []) hx hb hml htsW hown hNw hA G [.int (iz (xs (i + 1).toNat).toInt)] (c_X6_nodeDepth l w σ _ ((xs (i + 1).toNat).toInt) st.1) sh_0 rfl wm_602 wm_603 wm_604 wm_2 wm_605 hd_X6_nodeDepth ⟨rfl, rfl, Nat.le_trans (show rm_X6_nodeDepth.frames + 1 ≤ 9 from (Nat.le_of_ble_eq_true rfl)) hF, Nat.le_trans (show 8 + (2 + 11) + rm_X6_nodeDepth.locals ≤ 207 from (Nat.le_of_ble_eq_true rfl)) hLo⟩ rfl hl.1 (Nat.le_of_ble_eq_true rfl) rfl dL_law_600 hcs (fun r s1 H locs h G => ?_)
  obtain ⟨hp7, hst⟩ := st.2 r s1 h
  refine lv_aload_n hx hb dL_law_603 rfl (lv_at hl 1 rfl) ?_
  refine lv_aload_n hx hb dL_law_604 rfl (lv_at hl 3 rfl) ?_
  refine lv_iload_n hx hb dL_law_605 rfl (lv_at hl 0 rfl) ?_
  refine lv_iconst (v := iz 1) hx hb dL_law_606 rfl ?_
  refine g_iadd hx hb dL_law_607 ?_
  refine g_sld hx hb hX hbl hbA G.2.2.2 (j := i + 1) (by omega) (by omega) (by omega) dL_law_608 ?_
  refine g_callVi (rest := [.int (iz r)]) hx hb hml htsW hown hNw hA G [.int (iz (xs (i + 1).toNat).toInt)] (c_X7_nodeDepth l w s1 _ ((xs (i + 1).toNat).toInt) hp7) sh_80 rfl wm_610 wm_611 wm_612 wm_5 wm_613 hd_X7_nodeDepth ⟨rfl, rfl, Nat.le_trans (show rm_X7_nodeDepth.frames + 1 ≤ 9 from (Nat.le_of_ble_eq_true rfl)) hF, Nat.le_trans (show 8 + (2 + 11) + rm_X7_nodeDepth.locals ≤ 207 from (Nat.le_of_ble_eq_true rfl)) hLo⟩ rfl hl.1 (Nat.le_of_ble_eq_true rfl) rfl dL_law_609 hcs (fun r2 s2 H locs h G => ?_)
  obtain ⟨er, hI2⟩ := hst r2 s2 h
  exact lv_icmp_eq (tgt := 785) hx hb dL_law_612 (by decide) (fun _ => nx s2 H locs hI2 G) (fun q => absurd (congrArg iz er.symm) q)
set_option maxHeartbeats 4000000 in
set_option maxRecDepth 100000 in
theorem lc_19 {p : Program} {l : Launch} {e : Env} {R : Room} {s : State} {m : MethodId} {below : List Frame} {meth : Method} {c : Code} {b L NS : Nat} {xs : Nat → Int32} {w : GW} {Q : State → Prop} (hF : 9 ≤ R.frames) (hLo : 207 ≤ R.locals) (hcs : 91 ≤ R.cells ∧ NS ≤ R.slots) (hL : L ≤ 1536) (C0 : lwA p s m meth c b L xs) {k : Nat} {i : Int} {σ : St} {H : Heap} {locs : List Loc} {ls : Array Slot} (hi0 : 0 ≤ i) (hiL : i + 3 ≤ (L : Int)) (hk : k ≤ 1000) (hI : Inv k σ) (G : gS w gSL σ (lwF s) s s.heap H locs) (hl : lv_has ls 4 [(3, .int (iz i)), (2, .ref (gad w 80)), (1, .ref (gad w 0)), (0, .ref b)]) (nx : ∀ (σ : St) (H : Heap) (locs : List Loc), Inv (k + 1) σ → gS w gSL σ (lwF s) s s.heap H locs → W p l e R s m #[Value.ref b] below meth c H locs 91 NS Q (F0 m 785 ls [])) : W p l e R s m #[Value.ref b] below meth c H locs 91 NS Q (F0 m 617 ls []) := by
  obtain ⟨hx, hb, hr, hml, hown, hts, hX, hbl, hlk⟩ := id C0
  have htsW : ∀ w ∈ wsL_law, w.before #[Value.ref b] s = true := fun w h => hts w (wsL_in w h)
  have hNw : gNw s := gNw_of hts
  have hA : ∀ q, s.heap.size ≤ q → lwF s q := fun _ h => h
  have hbA : ¬ lwF s b := Nat.not_le.mpr hbl
  refine lv_aload_n hx hb dL_law_617 rfl (lv_at hl 2 rfl) ?_
  refine lv_aload_n hx hb dL_law_618 rfl (lv_at hl 3 rfl) ?_
  refine lv_iload_n hx hb dL_law_619 rfl (lv_at hl 0 rfl) ?_
  refine lv_iconst (v := iz 1) hx hb dL_law_620 rfl ?_
  refine g_iadd hx hb dL_law_621 ?_
  refine g_sld hx hb hX hbl hbA G.2.2.2 (j := i + 1) (by omega) (by omega) (by omega) dL_law_622 ?_
  have st := st_nodeWater hI (inR_toInt (xs (i + 1).toNat))
  refine g_callVi (rest := []) hx hb hml htsW hown hNw hA G [.int (iz (xs (i + 1).toNat).toInt)] (c_X6_nodeWater l w σ _ ((xs (i + 1).toNat).toInt) st.1) sh_0 rfl wm_614 wm_615 wm_616 wm_2 wm_617 hd_X6_nodeWater ⟨rfl, rfl, Nat.le_trans (show rm_X6_nodeWater.frames + 1 ≤ 9 from (Nat.le_of_ble_eq_true rfl)) hF, Nat.le_trans (show 8 + (2 + 11) + rm_X6_nodeWater.locals ≤ 207 from (Nat.le_of_ble_eq_true rfl)) hLo⟩ rfl hl.1 (Nat.le_of_ble_eq_true rfl) rfl dL_law_623 hcs (fun r s1 H locs h G => ?_)
  obtain ⟨hp7, hst⟩ := st.2 r s1 h
  refine lv_aload_n hx hb dL_law_626 rfl (lv_at hl 1 rfl) ?_
  refine lv_aload_n hx hb dL_law_627 rfl (lv_at hl 3 rfl) ?_
  refine lv_iload_n hx hb dL_law_628 rfl (lv_at hl 0 rfl) ?_
  refine lv_iconst (v := iz 1) hx hb dL_law_629 rfl ?_
  refine g_iadd hx hb dL_law_630 ?_
  refine g_sld hx hb hX hbl hbA G.2.2.2 (j := i + 1) (by omega) (by omega) (by omega) dL_law_631 ?_
  refine g_callVi (rest := [.int (iz r)]) hx hb hml htsW hown hNw hA G [.int (iz (xs (i + 1).toNat).toInt)] (c_X7_nodeWater l w s1 _ ((xs (i + 1).toNat).toInt) hp7) sh_80 rfl wm_622 wm_623 wm_624 wm_5 wm_625 hd_X7_nodeWater ⟨rfl, rfl, Nat.le_trans (show rm_X7_nodeWater.frames + 1 ≤ 9 from (Nat.le_of_ble_eq_true rfl)) hF, Nat.le_trans (show 8 + (2 + 11) + rm_X7_nodeWater.locals ≤ 207 from (Nat.le_of_ble_eq_true rfl)) hLo⟩ rfl hl.1 (Nat.le_of_ble_eq_true rfl) rfl dL_law_632 hcs (fun r2 s2 H locs h G => ?_)
  obtain ⟨er, hI2⟩ := hst r2 s2 h
  exact lv_icmp_eq (tgt := 785) hx hb dL_law_635 (by decide) (fun _ => nx s2 H locs hI2 G) (fun q => absurd (congrArg iz er.symm) q)
set_option maxHeartbeats 4000000 in
set_option maxRecDepth 100000 in
theorem lc_20 {p : Program} {l : Launch} {e : Env} {R : Room} {s : State} {m : MethodId} {below : List Frame} {meth : Method} {c : Code} {b L NS : Nat} {xs : Nat → Int32} {w : GW} {Q : State → Prop} (hF : 9 ≤ R.frames) (hLo : 207 ≤ R.locals) (hcs : 91 ≤ R.cells ∧ NS ≤ R.slots) (hL : L ≤ 1536) (C0 : lwA p s m meth c b L xs) {k : Nat} {i : Int} {σ : St} {H : Heap} {locs : List Loc} {ls : Array Slot} (hi0 : 0 ≤ i) (hiL : i + 3 ≤ (L : Int)) (hk : k ≤ 1000) (hI : Inv k σ) (G : gS w gSL σ (lwF s) s s.heap H locs) (hl : lv_has ls 4 [(3, .int (iz i)), (2, .ref (gad w 80)), (1, .ref (gad w 0)), (0, .ref b)]) (nx : ∀ (σ : St) (H : Heap) (locs : List Loc), Inv (k + 1) σ → gS w gSL σ (lwF s) s s.heap H locs → W p l e R s m #[Value.ref b] below meth c H locs 91 NS Q (F0 m 785 ls [])) : W p l e R s m #[Value.ref b] below meth c H locs 91 NS Q (F0 m 640 ls []) := by
  obtain ⟨hx, hb, hr, hml, hown, hts, hX, hbl, hlk⟩ := id C0
  have htsW : ∀ w ∈ wsL_law, w.before #[Value.ref b] s = true := fun w h => hts w (wsL_in w h)
  have hNw : gNw s := gNw_of hts
  have hA : ∀ q, s.heap.size ≤ q → lwF s q := fun _ h => h
  have hbA : ¬ lwF s b := Nat.not_le.mpr hbl
  refine lv_aload_n hx hb dL_law_640 rfl (lv_at hl 2 rfl) ?_
  refine lv_aload_n hx hb dL_law_641 rfl (lv_at hl 3 rfl) ?_
  refine lv_iload_n hx hb dL_law_642 rfl (lv_at hl 0 rfl) ?_
  refine lv_iconst (v := iz 1) hx hb dL_law_643 rfl ?_
  refine g_iadd hx hb dL_law_644 ?_
  refine g_sld hx hb hX hbl hbA G.2.2.2 (j := i + 1) (by omega) (by omega) (by omega) dL_law_645 ?_
  have st := st_nodeNumber hI (inR_toInt (xs (i + 1).toNat))
  refine g_callVi (rest := []) hx hb hml htsW hown hNw hA G [.int (iz (xs (i + 1).toNat).toInt)] (c_X6_nodeNumber l w σ _ ((xs (i + 1).toNat).toInt) st.1) sh_0 rfl wm_626 wm_627 wm_628 wm_2 wm_629 hd_X6_nodeNumber ⟨rfl, rfl, Nat.le_trans (show rm_X6_nodeNumber.frames + 1 ≤ 9 from (Nat.le_of_ble_eq_true rfl)) hF, Nat.le_trans (show 8 + (2 + 11) + rm_X6_nodeNumber.locals ≤ 207 from (Nat.le_of_ble_eq_true rfl)) hLo⟩ rfl hl.1 (Nat.le_of_ble_eq_true rfl) rfl dL_law_646 hcs (fun r s1 H locs h G => ?_)
  obtain ⟨hp7, hst⟩ := st.2 r s1 h
  refine lv_aload_n hx hb dL_law_649 rfl (lv_at hl 1 rfl) ?_
  refine lv_aload_n hx hb dL_law_650 rfl (lv_at hl 3 rfl) ?_
  refine lv_iload_n hx hb dL_law_651 rfl (lv_at hl 0 rfl) ?_
  refine lv_iconst (v := iz 1) hx hb dL_law_652 rfl ?_
  refine g_iadd hx hb dL_law_653 ?_
  refine g_sld hx hb hX hbl hbA G.2.2.2 (j := i + 1) (by omega) (by omega) (by omega) dL_law_654 ?_
  refine g_callVi (rest := [.int (iz r)]) hx hb hml htsW hown hNw hA G [.int (iz (xs (i + 1).toNat).toInt)] (c_X7_nodeNumber l w s1 _ ((xs (i + 1).toNat).toInt) hp7) sh_80 rfl wm_634 wm_635 wm_636 wm_5 wm_637 hd_X7_nodeNumber ⟨rfl, rfl, Nat.le_trans (show rm_X7_nodeNumber.frames + 1 ≤ 9 from (Nat.le_of_ble_eq_true rfl)) hF, Nat.le_trans (show 8 + (2 + 11) + rm_X7_nodeNumber.locals ≤ 207 from (Nat.le_of_ble_eq_true rfl)) hLo⟩ rfl hl.1 (Nat.le_of_ble_eq_true rfl) rfl dL_law_655 hcs (fun r2 s2 H locs h G => ?_)
  obtain ⟨er, hI2⟩ := hst r2 s2 h
  exact lv_icmp_eq (tgt := 785) hx hb dL_law_658 (by decide) (fun _ => nx s2 H locs hI2 G) (fun q => absurd (congrArg iz er.symm) q)
set_option maxHeartbeats 4000000 in
set_option maxRecDepth 100000 in
theorem lc_21 {p : Program} {l : Launch} {e : Env} {R : Room} {s : State} {m : MethodId} {below : List Frame} {meth : Method} {c : Code} {b L NS : Nat} {xs : Nat → Int32} {w : GW} {Q : State → Prop} (hF : 9 ≤ R.frames) (hLo : 207 ≤ R.locals) (hcs : 91 ≤ R.cells ∧ NS ≤ R.slots) (hL : L ≤ 1536) (C0 : lwA p s m meth c b L xs) {k : Nat} {i : Int} {σ : St} {H : Heap} {locs : List Loc} {ls : Array Slot} (hi0 : 0 ≤ i) (hiL : i + 3 ≤ (L : Int)) (hk : k ≤ 1000) (hI : Inv k σ) (G : gS w gSL σ (lwF s) s s.heap H locs) (hl : lv_has ls 4 [(3, .int (iz i)), (2, .ref (gad w 80)), (1, .ref (gad w 0)), (0, .ref b)]) (nx : ∀ (σ : St) (H : Heap) (locs : List Loc), Inv (k + 1) σ → gS w gSL σ (lwF s) s s.heap H locs → W p l e R s m #[Value.ref b] below meth c H locs 91 NS Q (F0 m 785 ls [])) : W p l e R s m #[Value.ref b] below meth c H locs 91 NS Q (F0 m 663 ls []) := by
  obtain ⟨hx, hb, hr, hml, hown, hts, hX, hbl, hlk⟩ := id C0
  have htsW : ∀ w ∈ wsL_law, w.before #[Value.ref b] s = true := fun w h => hts w (wsL_in w h)
  have hNw : gNw s := gNw_of hts
  have hA : ∀ q, s.heap.size ≤ q → lwF s q := fun _ h => h
  have hbA : ¬ lwF s b := Nat.not_le.mpr hbl
  refine lv_aload_n hx hb dL_law_663 rfl (lv_at hl 2 rfl) ?_
  refine lv_aload_n hx hb dL_law_664 rfl (lv_at hl 3 rfl) ?_
  refine lv_iload_n hx hb dL_law_665 rfl (lv_at hl 0 rfl) ?_
  refine lv_iconst (v := iz 1) hx hb dL_law_666 rfl ?_
  refine g_iadd hx hb dL_law_667 ?_
  refine g_sld hx hb hX hbl hbA G.2.2.2 (j := i + 1) (by omega) (by omega) (by omega) dL_law_668 ?_
  have st := st_nodeAt hI (inR_toInt (xs (i + 1).toNat))
  refine g_callVi (rest := []) hx hb hml htsW hown hNw hA G [.int (iz (xs (i + 1).toNat).toInt)] (c_X6_nodeAt l w σ _ ((xs (i + 1).toNat).toInt) st.1) sh_0 rfl wm_638 wm_639 wm_640 wm_2 wm_641 hd_X6_nodeAt ⟨rfl, rfl, Nat.le_trans (show rm_X6_nodeAt.frames + 1 ≤ 9 from (Nat.le_of_ble_eq_true rfl)) hF, Nat.le_trans (show 8 + (2 + 11) + rm_X6_nodeAt.locals ≤ 207 from (Nat.le_of_ble_eq_true rfl)) hLo⟩ rfl hl.1 (Nat.le_of_ble_eq_true rfl) rfl dL_law_669 hcs (fun r s1 H locs h G => ?_)
  obtain ⟨hp7, hst⟩ := st.2 r s1 h
  refine lv_aload_n hx hb dL_law_672 rfl (lv_at hl 1 rfl) ?_
  refine lv_aload_n hx hb dL_law_673 rfl (lv_at hl 3 rfl) ?_
  refine lv_iload_n hx hb dL_law_674 rfl (lv_at hl 0 rfl) ?_
  refine lv_iconst (v := iz 1) hx hb dL_law_675 rfl ?_
  refine g_iadd hx hb dL_law_676 ?_
  refine g_sld hx hb hX hbl hbA G.2.2.2 (j := i + 1) (by omega) (by omega) (by omega) dL_law_677 ?_
  refine g_callVi (rest := [.int (iz r)]) hx hb hml htsW hown hNw hA G [.int (iz (xs (i + 1).toNat).toInt)] (c2_X7_nodeAt l w s1 _ ((xs (i + 1).toNat).toInt) hp7) sh_80 rfl wm_646 wm_647 wm_648 wm_5 wm_649 hd_X7_nodeAt ⟨rfl, rfl, Nat.le_trans (show rm_X7_nodeAt.frames + 1 ≤ 9 from (Nat.le_of_ble_eq_true rfl)) hF, Nat.le_trans (show 8 + (5 + 11) + rm_X7_nodeAt.locals ≤ 207 from (Nat.le_of_ble_eq_true rfl)) hLo⟩ rfl hl.1 (Nat.le_of_ble_eq_true rfl) rfl dL_law_678 hcs (fun r2 s2 H locs h G => ?_)
  obtain ⟨er, hI2⟩ := hst r2 s2 h
  exact lv_icmp_eq (tgt := 785) hx hb dL_law_681 (by decide) (fun _ => nx s2 H locs hI2 G) (fun q => absurd (congrArg iz er.symm) q)
set_option maxHeartbeats 4000000 in
set_option maxRecDepth 100000 in
theorem lc_22 {p : Program} {l : Launch} {e : Env} {R : Room} {s : State} {m : MethodId} {below : List Frame} {meth : Method} {c : Code} {b L NS : Nat} {xs : Nat → Int32} {w : GW} {Q : State → Prop} (hF : 9 ≤ R.frames) (hLo : 207 ≤ R.locals) (hcs : 91 ≤ R.cells ∧ NS ≤ R.slots) (hL : L ≤ 1536) (C0 : lwA p s m meth c b L xs) {k : Nat} {i : Int} {σ : St} {H : Heap} {locs : List Loc} {ls : Array Slot} (hi0 : 0 ≤ i) (hiL : i + 3 ≤ (L : Int)) (hk : k ≤ 1000) (hI : Inv k σ) (G : gS w gSL σ (lwF s) s s.heap H locs) (hl : lv_has ls 4 [(3, .int (iz i)), (2, .ref (gad w 80)), (1, .ref (gad w 0)), (0, .ref b)]) (nx : ∀ (σ : St) (H : Heap) (locs : List Loc), Inv (k + 1) σ → gS w gSL σ (lwF s) s s.heap H locs → W p l e R s m #[Value.ref b] below meth c H locs 91 NS Q (F0 m 785 ls [])) : W p l e R s m #[Value.ref b] below meth c H locs 91 NS Q (F0 m 686 ls []) := by
  obtain ⟨hx, hb, hr, hml, hown, hts, hX, hbl, hlk⟩ := id C0
  have htsW : ∀ w ∈ wsL_law, w.before #[Value.ref b] s = true := fun w h => hts w (wsL_in w h)
  have hNw : gNw s := gNw_of hts
  have hA : ∀ q, s.heap.size ≤ q → lwF s q := fun _ h => h
  have hbA : ¬ lwF s b := Nat.not_le.mpr hbl
  refine lv_aload_n hx hb dL_law_686 rfl (lv_at hl 2 rfl) ?_
  have st := st_waterLength hI
  refine g_callVi (rest := []) hx hb hml htsW hown hNw hA G [] (c_X6_waterLength l w σ _ st.1) sh_0 rfl wm_650 wm_651 wm_652 wm_2 wm_653 hd_X6_waterLength ⟨rfl, rfl, Nat.le_trans (show rm_X6_waterLength.frames + 1 ≤ 9 from (Nat.le_of_ble_eq_true rfl)) hF, Nat.le_trans (show 8 + (1 + 11) + rm_X6_waterLength.locals ≤ 207 from (Nat.le_of_ble_eq_true rfl)) hLo⟩ rfl hl.1 (Nat.le_of_ble_eq_true rfl) rfl dL_law_687 hcs (fun r s1 H locs h G => ?_)
  obtain ⟨hp7, hst⟩ := st.2 r s1 h
  refine lv_aload_n hx hb dL_law_690 rfl (lv_at hl 1 rfl) ?_
  refine g_callVi (rest := [.int (iz r)]) hx hb hml htsW hown hNw hA G [] (c_X7_waterLength l w s1 _ hp7) sh_80 rfl wm_658 wm_659 wm_660 wm_5 wm_661 hd_X7_waterLength ⟨rfl, rfl, Nat.le_trans (show rm_X7_waterLength.frames + 1 ≤ 9 from (Nat.le_of_ble_eq_true rfl)) hF, Nat.le_trans (show 8 + (1 + 11) + rm_X7_waterLength.locals ≤ 207 from (Nat.le_of_ble_eq_true rfl)) hLo⟩ rfl hl.1 (Nat.le_of_ble_eq_true rfl) rfl dL_law_691 hcs (fun r2 s2 H locs h G => ?_)
  obtain ⟨er, hI2⟩ := hst r2 s2 h
  exact lv_icmp_eq (tgt := 785) hx hb dL_law_694 (by decide) (fun _ => nx s2 H locs hI2 G) (fun q => absurd (congrArg iz er.symm) q)
set_option maxHeartbeats 4000000 in
set_option maxRecDepth 100000 in
theorem lc_23 {p : Program} {l : Launch} {e : Env} {R : Room} {s : State} {m : MethodId} {below : List Frame} {meth : Method} {c : Code} {b L NS : Nat} {xs : Nat → Int32} {w : GW} {Q : State → Prop} (hF : 9 ≤ R.frames) (hLo : 207 ≤ R.locals) (hcs : 91 ≤ R.cells ∧ NS ≤ R.slots) (hL : L ≤ 1536) (C0 : lwA p s m meth c b L xs) {k : Nat} {i : Int} {σ : St} {H : Heap} {locs : List Loc} {ls : Array Slot} (hi0 : 0 ≤ i) (hiL : i + 3 ≤ (L : Int)) (hk : k ≤ 1000) (hI : Inv k σ) (G : gS w gSL σ (lwF s) s s.heap H locs) (hl : lv_has ls 4 [(3, .int (iz i)), (2, .ref (gad w 80)), (1, .ref (gad w 0)), (0, .ref b)]) (nx : ∀ (σ : St) (H : Heap) (locs : List Loc), Inv (k + 1) σ → gS w gSL σ (lwF s) s s.heap H locs → W p l e R s m #[Value.ref b] below meth c H locs 91 NS Q (F0 m 785 ls [])) : W p l e R s m #[Value.ref b] below meth c H locs 91 NS Q (F0 m 699 ls []) := by
  obtain ⟨hx, hb, hr, hml, hown, hts, hX, hbl, hlk⟩ := id C0
  have htsW : ∀ w ∈ wsL_law, w.before #[Value.ref b] s = true := fun w h => hts w (wsL_in w h)
  have hNw : gNw s := gNw_of hts
  have hA : ∀ q, s.heap.size ≤ q → lwF s q := fun _ h => h
  have hbA : ¬ lwF s b := Nat.not_le.mpr hbl
  refine lv_aload_n hx hb dL_law_699 rfl (lv_at hl 2 rfl) ?_
  have st := st_longestWater hI
  refine g_callVi (rest := []) hx hb hml htsW hown hNw hA G [] (c_X6_longestWater l w σ _ st.1) sh_0 rfl wm_662 wm_663 wm_664 wm_2 wm_665 hd_X6_longestWater ⟨rfl, rfl, Nat.le_trans (show rm_X6_longestWater.frames + 1 ≤ 9 from (Nat.le_of_ble_eq_true rfl)) hF, Nat.le_trans (show 8 + (1 + 11) + rm_X6_longestWater.locals ≤ 207 from (Nat.le_of_ble_eq_true rfl)) hLo⟩ rfl hl.1 (Nat.le_of_ble_eq_true rfl) rfl dL_law_700 hcs (fun r s1 H locs h G => ?_)
  obtain ⟨hp7, hst⟩ := st.2 r s1 h
  refine lv_aload_n hx hb dL_law_703 rfl (lv_at hl 1 rfl) ?_
  refine g_callVi (rest := [.int (iz r)]) hx hb hml htsW hown hNw hA G [] (c_X7_longestWater l w s1 _ hp7) sh_80 rfl wm_670 wm_671 wm_672 wm_5 wm_673 hd_X7_longestWater ⟨rfl, rfl, Nat.le_trans (show rm_X7_longestWater.frames + 1 ≤ 9 from (Nat.le_of_ble_eq_true rfl)) hF, Nat.le_trans (show 8 + (1 + 11) + rm_X7_longestWater.locals ≤ 207 from (Nat.le_of_ble_eq_true rfl)) hLo⟩ rfl hl.1 (Nat.le_of_ble_eq_true rfl) rfl dL_law_704 hcs (fun r2 s2 H locs h G => ?_)
  obtain ⟨er, hI2⟩ := hst r2 s2 h
  exact lv_icmp_eq (tgt := 785) hx hb dL_law_707 (by decide) (fun _ => nx s2 H locs hI2 G) (fun q => absurd (congrArg iz er.symm) q)
set_option maxHeartbeats 4000000 in
set_option maxRecDepth 100000 in
theorem lc_24 {p : Program} {l : Launch} {e : Env} {R : Room} {s : State} {m : MethodId} {below : List Frame} {meth : Method} {c : Code} {b L NS : Nat} {xs : Nat → Int32} {w : GW} {Q : State → Prop} (hF : 9 ≤ R.frames) (hLo : 207 ≤ R.locals) (hcs : 91 ≤ R.cells ∧ NS ≤ R.slots) (hL : L ≤ 1536) (C0 : lwA p s m meth c b L xs) {k : Nat} {i : Int} {σ : St} {H : Heap} {locs : List Loc} {ls : Array Slot} (hi0 : 0 ≤ i) (hiL : i + 3 ≤ (L : Int)) (hk : k ≤ 1000) (hI : Inv k σ) (G : gS w gSL σ (lwF s) s s.heap H locs) (hl : lv_has ls 4 [(3, .int (iz i)), (2, .ref (gad w 80)), (1, .ref (gad w 0)), (0, .ref b)]) (nx : ∀ (σ : St) (H : Heap) (locs : List Loc), Inv (k + 1) σ → gS w gSL σ (lwF s) s s.heap H locs → W p l e R s m #[Value.ref b] below meth c H locs 91 NS Q (F0 m 785 ls [])) : W p l e R s m #[Value.ref b] below meth c H locs 91 NS Q (F0 m 712 ls []) := by
  obtain ⟨hx, hb, hr, hml, hown, hts, hX, hbl, hlk⟩ := id C0
  have htsW : ∀ w ∈ wsL_law, w.before #[Value.ref b] s = true := fun w h => hts w (wsL_in w h)
  have hNw : gNw s := gNw_of hts
  have hA : ∀ q, s.heap.size ≤ q → lwF s q := fun _ h => h
  have hbA : ¬ lwF s b := Nat.not_le.mpr hbl
  refine lv_aload_n hx hb dL_law_712 rfl (lv_at hl 2 rfl) ?_
  refine lv_aload_n hx hb dL_law_713 rfl (lv_at hl 3 rfl) ?_
  refine lv_iload_n hx hb dL_law_714 rfl (lv_at hl 0 rfl) ?_
  refine lv_iconst (v := iz 1) hx hb dL_law_715 rfl ?_
  refine g_iadd hx hb dL_law_716 ?_
  refine g_sld hx hb hX hbl hbA G.2.2.2 (j := i + 1) (by omega) (by omega) (by omega) dL_law_717 ?_
  have st := st_countOf hI (inR_toInt (xs (i + 1).toNat))
  refine g_callVi (rest := []) hx hb hml htsW hown hNw hA G [.int (iz (xs (i + 1).toNat).toInt)] (c_X6_countOf l w σ _ ((xs (i + 1).toNat).toInt) st.1) sh_0 rfl wm_674 wm_675 wm_676 wm_2 wm_677 hd_X6_countOf ⟨rfl, rfl, Nat.le_trans (show rm_X6_countOf.frames + 1 ≤ 9 from (Nat.le_of_ble_eq_true rfl)) hF, Nat.le_trans (show 8 + (2 + 11) + rm_X6_countOf.locals ≤ 207 from (Nat.le_of_ble_eq_true rfl)) hLo⟩ rfl hl.1 (Nat.le_of_ble_eq_true rfl) rfl dL_law_718 hcs (fun r s1 H locs h G => ?_)
  obtain ⟨hp7, hst⟩ := st.2 r s1 h
  refine lv_aload_n hx hb dL_law_721 rfl (lv_at hl 1 rfl) ?_
  refine lv_aload_n hx hb dL_law_722 rfl (lv_at hl 3 rfl) ?_
  refine lv_iload_n hx hb dL_law_723 rfl (lv_at hl 0 rfl) ?_
  refine lv_iconst (v := iz 1) hx hb dL_law_724 rfl ?_
  refine g_iadd hx hb dL_law_725 ?_
  refine g_sld hx hb hX hbl hbA G.2.2.2 (j := i + 1) (by omega) (by omega) (by omega) dL_law_726 ?_
  refine g_callVi (rest := [.int (iz r)]) hx hb hml htsW hown hNw hA G [.int (iz (xs (i + 1).toNat).toInt)] (c2_X7_countOf l w s1 _ ((xs (i + 1).toNat).toInt) hp7) sh_80 rfl wm_682 wm_683 wm_684 wm_5 wm_685 hd_X7_countOf ⟨rfl, rfl, Nat.le_trans (show rm_X7_countOf.frames + 1 ≤ 9 from (Nat.le_of_ble_eq_true rfl)) hF, Nat.le_trans (show 8 + (4 + 11) + rm_X7_countOf.locals ≤ 207 from (Nat.le_of_ble_eq_true rfl)) hLo⟩ rfl hl.1 (Nat.le_of_ble_eq_true rfl) rfl dL_law_727 hcs (fun r2 s2 H locs h G => ?_)
  obtain ⟨er, hI2⟩ := hst r2 s2 h
  exact lv_icmp_eq (tgt := 785) hx hb dL_law_730 (by decide) (fun _ => nx s2 H locs hI2 G) (fun q => absurd (congrArg iz er.symm) q)
set_option maxHeartbeats 4000000 in
set_option maxRecDepth 100000 in
theorem lc_25 {p : Program} {l : Launch} {e : Env} {R : Room} {s : State} {m : MethodId} {below : List Frame} {meth : Method} {c : Code} {b L NS : Nat} {xs : Nat → Int32} {w : GW} {Q : State → Prop} (hF : 9 ≤ R.frames) (hLo : 207 ≤ R.locals) (hcs : 91 ≤ R.cells ∧ NS ≤ R.slots) (hL : L ≤ 1536) (C0 : lwA p s m meth c b L xs) {k : Nat} {i : Int} {σ : St} {H : Heap} {locs : List Loc} {ls : Array Slot} (hi0 : 0 ≤ i) (hiL : i + 3 ≤ (L : Int)) (hk : k ≤ 1000) (hI : Inv k σ) (G : gS w gSL σ (lwF s) s s.heap H locs) (hl : lv_has ls 4 [(3, .int (iz i)), (2, .ref (gad w 80)), (1, .ref (gad w 0)), (0, .ref b)]) (nx : ∀ (σ : St) (H : Heap) (locs : List Loc), Inv (k + 1) σ → gS w gSL σ (lwF s) s s.heap H locs → W p l e R s m #[Value.ref b] below meth c H locs 91 NS Q (F0 m 785 ls [])) : W p l e R s m #[Value.ref b] below meth c H locs 91 NS Q (F0 m 735 ls []) := by
  obtain ⟨hx, hb, hr, hml, hown, hts, hX, hbl, hlk⟩ := id C0
  have htsW : ∀ w ∈ wsL_law, w.before #[Value.ref b] s = true := fun w h => hts w (wsL_in w h)
  have hNw : gNw s := gNw_of hts
  have hA : ∀ q, s.heap.size ≤ q → lwF s q := fun _ h => h
  have hbA : ¬ lwF s b := Nat.not_le.mpr hbl
  refine lv_aload_n hx hb dL_law_735 rfl (lv_at hl 2 rfl) ?_
  have st := st_undo hI
  refine g_callVi (rest := []) hx hb hml htsW hown hNw hA G [] (c_X6_undo l w σ _ st.1) sh_0 rfl wm_686 wm_687 wm_688 wm_2 wm_689 hd_X6_undo ⟨rfl, rfl, Nat.le_trans (show rm_X6_undo.frames + 1 ≤ 9 from (Nat.le_of_ble_eq_true rfl)) hF, Nat.le_trans (show 8 + (1 + 11) + rm_X6_undo.locals ≤ 207 from (Nat.le_of_ble_eq_true rfl)) hLo⟩ rfl hl.1 (Nat.le_of_ble_eq_true rfl) rfl dL_law_736 hcs (fun r s1 H locs h G => ?_)
  obtain ⟨hp7, hst⟩ := st.2 r s1 h
  refine lv_aload_n hx hb dL_law_739 rfl (lv_at hl 1 rfl) ?_
  refine g_callVi (rest := [.int (iz r)]) hx hb hml htsW hown hNw hA G [] (c_X7_undo l w s1 _ hp7) sh_80 rfl wm_699 wm_700 wm_701 wm_5 wm_702 hd_X7_undo ⟨rfl, rfl, Nat.le_trans (show rm_X7_undo.frames + 1 ≤ 9 from (Nat.le_of_ble_eq_true rfl)) hF, Nat.le_trans (show 8 + (2 + 11) + rm_X7_undo.locals ≤ 207 from (Nat.le_of_ble_eq_true rfl)) hLo⟩ rfl hl.1 (Nat.le_of_ble_eq_true rfl) rfl dL_law_740 hcs (fun r2 s2 H locs h G => ?_)
  obtain ⟨er, hI2⟩ := hst r2 s2 h
  exact lv_icmp_eq (tgt := 785) hx hb dL_law_743 (by decide) (fun _ => nx s2 H locs hI2 G) (fun q => absurd (congrArg iz er.symm) q)
set_option maxHeartbeats 4000000 in
set_option maxRecDepth 100000 in
theorem lc_26 {p : Program} {l : Launch} {e : Env} {R : Room} {s : State} {m : MethodId} {below : List Frame} {meth : Method} {c : Code} {b L NS : Nat} {xs : Nat → Int32} {w : GW} {Q : State → Prop} (hF : 9 ≤ R.frames) (hLo : 207 ≤ R.locals) (hcs : 91 ≤ R.cells ∧ NS ≤ R.slots) (hL : L ≤ 1536) (C0 : lwA p s m meth c b L xs) {k : Nat} {i : Int} {σ : St} {H : Heap} {locs : List Loc} {ls : Array Slot} (hi0 : 0 ≤ i) (hiL : i + 3 ≤ (L : Int)) (hk : k ≤ 1000) (hI : Inv k σ) (G : gS w gSL σ (lwF s) s s.heap H locs) (hl : lv_has ls 4 [(3, .int (iz i)), (2, .ref (gad w 80)), (1, .ref (gad w 0)), (0, .ref b)]) (nx : ∀ (σ : St) (H : Heap) (locs : List Loc), Inv (k + 1) σ → gS w gSL σ (lwF s) s s.heap H locs → W p l e R s m #[Value.ref b] below meth c H locs 91 NS Q (F0 m 785 ls [])) : W p l e R s m #[Value.ref b] below meth c H locs 91 NS Q (F0 m 748 ls []) := by
  obtain ⟨hx, hb, hr, hml, hown, hts, hX, hbl, hlk⟩ := id C0
  have htsW : ∀ w ∈ wsL_law, w.before #[Value.ref b] s = true := fun w h => hts w (wsL_in w h)
  have hNw : gNw s := gNw_of hts
  have hA : ∀ q, s.heap.size ≤ q → lwF s q := fun _ h => h
  have hbA : ¬ lwF s b := Nat.not_le.mpr hbl
  refine lv_aload_n hx hb dL_law_748 rfl (lv_at hl 2 rfl) ?_
  refine lv_aload_n hx hb dL_law_749 rfl (lv_at hl 3 rfl) ?_
  refine lv_iload_n hx hb dL_law_750 rfl (lv_at hl 0 rfl) ?_
  refine lv_iconst (v := iz 1) hx hb dL_law_751 rfl ?_
  refine g_iadd hx hb dL_law_752 ?_
  refine g_sld hx hb hX hbl hbA G.2.2.2 (j := i + 1) (by omega) (by omega) (by omega) dL_law_753 ?_
  have st := st_errorCount hI (inR_toInt (xs (i + 1).toNat))
  refine g_callVi (rest := []) hx hb hml htsW hown hNw hA G [.int (iz (xs (i + 1).toNat).toInt)] (c_X6_errorCount l w σ _ ((xs (i + 1).toNat).toInt) st.1) sh_0 rfl wm_703 wm_704 wm_705 wm_2 wm_706 hd_X6_errorCount ⟨rfl, rfl, Nat.le_trans (show rm_X6_errorCount.frames + 1 ≤ 9 from (Nat.le_of_ble_eq_true rfl)) hF, Nat.le_trans (show 8 + (2 + 11) + rm_X6_errorCount.locals ≤ 207 from (Nat.le_of_ble_eq_true rfl)) hLo⟩ rfl hl.1 (Nat.le_of_ble_eq_true rfl) rfl dL_law_754 hcs (fun r s1 H locs h G => ?_)
  obtain ⟨hp7, hst⟩ := st.2 r s1 h
  refine lv_aload_n hx hb dL_law_757 rfl (lv_at hl 1 rfl) ?_
  refine lv_aload_n hx hb dL_law_758 rfl (lv_at hl 3 rfl) ?_
  refine lv_iload_n hx hb dL_law_759 rfl (lv_at hl 0 rfl) ?_
  refine lv_iconst (v := iz 1) hx hb dL_law_760 rfl ?_
  refine g_iadd hx hb dL_law_761 ?_
  refine g_sld hx hb hX hbl hbA G.2.2.2 (j := i + 1) (by omega) (by omega) (by omega) dL_law_762 ?_
  refine g_callVi (rest := [.int (iz r)]) hx hb hml htsW hown hNw hA G [.int (iz (xs (i + 1).toNat).toInt)] (c_X7_errorCount l w s1 _ ((xs (i + 1).toNat).toInt) hp7) sh_80 rfl wm_707 wm_708 wm_709 wm_5 wm_710 hd_X7_errorCount ⟨rfl, rfl, Nat.le_trans (show rm_X7_errorCount.frames + 1 ≤ 9 from (Nat.le_of_ble_eq_true rfl)) hF, Nat.le_trans (show 8 + (2 + 11) + rm_X7_errorCount.locals ≤ 207 from (Nat.le_of_ble_eq_true rfl)) hLo⟩ rfl hl.1 (Nat.le_of_ble_eq_true rfl) rfl dL_law_763 hcs (fun r2 s2 H locs h G => ?_)
  obtain ⟨er, hI2⟩ := hst r2 s2 h
  exact lv_icmp_eq (tgt := 785) hx hb dL_law_766 (by decide) (fun _ => nx s2 H locs hI2 G) (fun q => absurd (congrArg iz er.symm) q)
set_option maxHeartbeats 4000000 in
set_option maxRecDepth 100000 in
theorem lc_27 {p : Program} {l : Launch} {e : Env} {R : Room} {s : State} {m : MethodId} {below : List Frame} {meth : Method} {c : Code} {b L NS : Nat} {xs : Nat → Int32} {w : GW} {Q : State → Prop} (hF : 9 ≤ R.frames) (hLo : 207 ≤ R.locals) (hcs : 91 ≤ R.cells ∧ NS ≤ R.slots) (hL : L ≤ 1536) (C0 : lwA p s m meth c b L xs) {k : Nat} {i : Int} {σ : St} {H : Heap} {locs : List Loc} {ls : Array Slot} (hi0 : 0 ≤ i) (hiL : i + 3 ≤ (L : Int)) (hk : k ≤ 1000) (hI : Inv k σ) (G : gS w gSL σ (lwF s) s s.heap H locs) (hl : lv_has ls 4 [(3, .int (iz i)), (2, .ref (gad w 80)), (1, .ref (gad w 0)), (0, .ref b)]) (nx : ∀ (σ : St) (H : Heap) (locs : List Loc), Inv (k + 1) σ → gS w gSL σ (lwF s) s s.heap H locs → W p l e R s m #[Value.ref b] below meth c H locs 91 NS Q (F0 m 785 ls [])) : W p l e R s m #[Value.ref b] below meth c H locs 91 NS Q (F0 m 771 ls []) := by
  obtain ⟨hx, hb, hr, hml, hown, hts, hX, hbl, hlk⟩ := id C0
  have htsW : ∀ w ∈ wsL_law, w.before #[Value.ref b] s = true := fun w h => hts w (wsL_in w h)
  have hNw : gNw s := gNw_of hts
  have hA : ∀ q, s.heap.size ≤ q → lwF s q := fun _ h => h
  have hbA : ¬ lwF s b := Nat.not_le.mpr hbl
  refine lv_aload_n hx hb dL_law_771 rfl (lv_at hl 2 rfl) ?_
  have st := st_digest (by omega) hI
  refine g_callVl (rest := []) hx hb hml htsW hown hNw hA G [] (c_X6_digest l w σ _ st.1) sh_0 rfl wm_711 wm_712 wm_713 wm_2 wm_714 hd_X6_digest ⟨rfl, rfl, Nat.le_trans (show rm_X6_digest.frames + 1 ≤ 9 from (Nat.le_of_ble_eq_true rfl)) hF, Nat.le_trans (show 8 + (3 + 11) + rm_X6_digest.locals ≤ 207 from (Nat.le_of_ble_eq_true rfl)) hLo⟩ rfl hl.1 (Nat.le_of_ble_eq_true rfl) rfl dL_law_772 hcs (fun r s1 H locs h G => ?_)
  obtain ⟨hp7, hst⟩ := st.2 r s1 h
  refine lv_aload_n hx hb dL_law_775 rfl (lv_at hl 1 rfl) ?_
  refine g_callVl (rest := [.long (lz r)]) hx hb hml htsW hown hNw hA G [] (c_X7_digest l w s1 _ hp7) sh_80 rfl wm_736 wm_737 wm_738 wm_5 wm_739 hd_X7_digest ⟨rfl, rfl, Nat.le_trans (show rm_X7_digest.frames + 1 ≤ 9 from (Nat.le_of_ble_eq_true rfl)) hF, Nat.le_trans (show 8 + (3 + 11) + rm_X7_digest.locals ≤ 207 from (Nat.le_of_ble_eq_true rfl)) hLo⟩ rfl hl.1 (Nat.le_of_ble_eq_true rfl) rfl dL_law_776 hcs (fun r2 s2 H locs h G => ?_)
  obtain ⟨er, hI2⟩ := hst r2 s2 h
  refine W.lcmp hx hb dL_law_779 ?_
  have z : lg_cmp (lz r) (lz r2) = 0 := by rw [er]; simp [lg_cmp]
  rw [z]
  exact lv_if_eq (tgt := 785) hx hb dL_law_780 (by decide) (fun _ => nx s2 H locs hI2 G) (fun q => absurd rfl q)
set_option maxHeartbeats 4000000 in
set_option maxRecDepth 100000 in
theorem law_loop {p : Program} {l : Launch} {e : Env} {R : Room} {s : State} {m : MethodId} {below : List Frame} {meth : Method} {c : Code} {b L NS : Nat} {xs : Nat → Int32} {w : GW} {Q : State → Prop} (hF : 9 ≤ R.frames) (hLo : 207 ≤ R.locals) (hcs : 91 ≤ R.cells ∧ NS ≤ R.slots) (hL : L ≤ 1536) (C0 : lwA p s m meth c b L xs) {X : State → Prop} (hXt : ∀ (σ : St) (H : Heap) (locs : List Loc), gS w gSL σ (lwF s) s s.heap H locs → ∀ t : State, t.heap = H → X t) : ∀ (n k : Nat) (i : Int), i = 3 * (k : Int) → (L : Int) + 1 - i ≤ (n : Int) → i ≤ (L : Int) → ∀ (σ : St) (H : Heap) (locs : List Loc) (ls : Array Slot), Inv k σ → gS w gSL σ (lwF s) s s.heap H locs → lv_has ls 4 [(3, .int (iz i)), (2, .ref (gad w 80)), (1, .ref (gad w 0)), (0, .ref b)] → W p l e R s m #[Value.ref b] below meth c H locs 91 NS (lwE 91 NS below s X) (F0 m 18 ls []) := by
  obtain ⟨hx, hb, hr, hml, hown, hts, hX, hbl, hlk⟩ := id C0
  have hbA : ¬ lwF s b := Nat.not_le.mpr hbl
  intro n
  induction n with
  | zero => intro k i hi hn hiL; omega
  | succ n ih =>
    intro k i hi hn hiL σ H locs ls hI G hl
    have hi0 : 0 ≤ i := by omega
    refine lv_iload_n hx hb dL_law_18 rfl (lv_at hl 0 rfl) ?_
    refine lv_aload_n hx hb dL_law_19 rfl (lv_at hl 3 rfl) ?_
    refine va_slen hx hb hX hbl hbA G.2.2.2 dL_law_20 ?_
    rw [show Int32.ofNat L = iz (L : Int) from Int32.ofInt_eq_ofNat.symm]
    refine lv_iconst (v := iz 3) hx hb dL_law_21 rfl ?_
    refine g_isub hx hb dL_law_22 ?_
    refine g_icmp_gt (tgt := 791) hx hb ⟨by omega, by omega⟩ ⟨by omega, by omega⟩ dL_law_23 (by decide) (fun q => ?_) (fun q => ?_)
    · refine lv_iconst (v := 1) hx hb dL_law_791 rfl ?_
      refine va_forget (fun q h => G.2.2.2.2.2 q h) ?_
      exact g_lend hx hb hr hlk (fun t ht => hXt σ H locs G t ht) dL_law_792
    · refine lv_aload_n hx hb dL_law_26 rfl (lv_at hl 3 rfl) ?_
      refine lv_iload_n hx hb dL_law_27 rfl (lv_at hl 0 rfl) ?_
      refine g_sld hx hb hX hbl hbA G.2.2.2 (j := i) hi0 (by omega) (by omega) dL_law_28 ?_
      refine lv_bipush (v := 31) hx hb dL_law_29 (by decide +kernel) ?_
      refine lv_iand hx hb dL_law_31 ?_
      refine lv_topi (fun v ev => ?_)
      have nx : ∀ (σ : St) (H : Heap) (locs : List Loc), Inv (k + 1) σ → gS w gSL σ (lwF s) s s.heap H locs → W p l e R s m #[Value.ref b] below meth c H locs 91 NS (lwE 91 NS below s X) (F0 m 785 ls []) := fun σ H locs hI G => by
        refine g_iinc (k := 0) (x := i) (n := 3) (lv' := [(3, .int (iz (i + 3))), (2, .ref (gad w 80)), (1, .ref (gad w 0)), (0, .ref b)]) hx hb dL_law_785 hl rfl (by decide) rfl (fun ls hl => ?_)
        refine lv_goto (tgt := 18) hx hb dL_law_788 (by decide) ?_
        exact ih (k + 1) (i + 3) (by omega) (by omega) (by omega) σ H locs ls hI G hl
      by_cases hc : 0 ≤ v.toInt ∧ v.toInt ≤ 27
      · rcases (show v.toInt = 0 ∨ v.toInt = 1 ∨ v.toInt = 2 ∨ v.toInt = 3 ∨ v.toInt = 4 ∨ v.toInt = 5 ∨ v.toInt = 6 ∨ v.toInt = 7 ∨ v.toInt = 8 ∨ v.toInt = 9 ∨ v.toInt = 10 ∨ v.toInt = 11 ∨ v.toInt = 12 ∨ v.toInt = 13 ∨ v.toInt = 14 ∨ v.toInt = 15 ∨ v.toInt = 16 ∨ v.toInt = 17 ∨ v.toInt = 18 ∨ v.toInt = 19 ∨ v.toInt = 20 ∨ v.toInt = 21 ∨ v.toInt = 22 ∨ v.toInt = 23 ∨ v.toInt = 24 ∨ v.toInt = 25 ∨ v.toInt = 26 ∨ v.toInt = 27 by omega) with hv | hv | hv | hv | hv | hv | hv | hv | hv | hv | hv | hv | hv | hv | hv | hv | hv | hv | hv | hv | hv | hv | hv | hv | hv | hv | hv | hv
        · exact lv_tableIn (off := 128) (tgt := 160) hx hb dL_law_32 (by rw [hv]; decide) (by rw [hv]; decide) (by rw [hv]; rfl) (by decide) (lc_0 hF hLo hcs hL C0 hi0 (by omega) (by omega) hI G hl nx)
        · exact lv_tableIn (off := 161) (tgt := 193) hx hb dL_law_32 (by rw [hv]; decide) (by rw [hv]; decide) (by rw [hv]; rfl) (by decide) (lc_1 hF hLo hcs hL C0 hi0 (by omega) (by omega) hI G hl nx)
        · exact lv_tableIn (off := 194) (tgt := 226) hx hb dL_law_32 (by rw [hv]; decide) (by rw [hv]; decide) (by rw [hv]; rfl) (by decide) (lc_2 hF hLo hcs hL C0 hi0 (by omega) (by omega) hI G hl nx)
        · exact lv_tableIn (off := 227) (tgt := 259) hx hb dL_law_32 (by rw [hv]; decide) (by rw [hv]; decide) (by rw [hv]; rfl) (by decide) (lc_3 hF hLo hcs hL C0 hi0 (by omega) (by omega) hI G hl nx)
        · exact lv_tableIn (off := 240) (tgt := 272) hx hb dL_law_32 (by rw [hv]; decide) (by rw [hv]; decide) (by rw [hv]; rfl) (by decide) (lc_4 hF hLo hcs hL C0 hi0 (by omega) (by omega) hI G hl nx)
        · exact lv_tableIn (off := 263) (tgt := 295) hx hb dL_law_32 (by rw [hv]; decide) (by rw [hv]; decide) (by rw [hv]; rfl) (by decide) (lc_5 hF hLo hcs hL C0 hi0 (by omega) (by omega) hI G hl nx)
        · exact lv_tableIn (off := 286) (tgt := 318) hx hb dL_law_32 (by rw [hv]; decide) (by rw [hv]; decide) (by rw [hv]; rfl) (by decide) (lc_6 hF hLo hcs hL C0 hi0 (by omega) (by omega) hI G hl nx)
        · exact lv_tableIn (off := 299) (tgt := 331) hx hb dL_law_32 (by rw [hv]; decide) (by rw [hv]; decide) (by rw [hv]; rfl) (by decide) (lc_7 hF hLo hcs hL C0 hi0 (by omega) (by omega) hI G hl nx)
        · exact lv_tableIn (off := 322) (tgt := 354) hx hb dL_law_32 (by rw [hv]; decide) (by rw [hv]; decide) (by rw [hv]; rfl) (by decide) (lc_8 hF hLo hcs hL C0 hi0 (by omega) (by omega) hI G hl nx)
        · exact lv_tableIn (off := 345) (tgt := 377) hx hb dL_law_32 (by rw [hv]; decide) (by rw [hv]; decide) (by rw [hv]; rfl) (by decide) (lc_9 hF hLo hcs hL C0 hi0 (by omega) (by omega) hI G hl nx)
        · exact lv_tableIn (off := 378) (tgt := 410) hx hb dL_law_32 (by rw [hv]; decide) (by rw [hv]; decide) (by rw [hv]; rfl) (by decide) (lc_10 hF hLo hcs hL C0 hi0 (by omega) (by omega) hI G hl nx)
        · exact lv_tableIn (off := 411) (tgt := 443) hx hb dL_law_32 (by rw [hv]; decide) (by rw [hv]; decide) (by rw [hv]; rfl) (by decide) (lc_11 hF hLo hcs hL C0 hi0 (by omega) (by omega) hI G hl nx)
        · exact lv_tableIn (off := 444) (tgt := 476) hx hb dL_law_32 (by rw [hv]; decide) (by rw [hv]; decide) (by rw [hv]; rfl) (by decide) (lc_12 hF hLo hcs hL C0 hi0 (by omega) (by omega) hI G hl nx)
        · exact lv_tableIn (off := 457) (tgt := 489) hx hb dL_law_32 (by rw [hv]; decide) (by rw [hv]; decide) (by rw [hv]; rfl) (by decide) (lc_13 hF hLo hcs hL C0 hi0 (by omega) (by omega) hI G hl nx)
        · exact lv_tableIn (off := 470) (tgt := 502) hx hb dL_law_32 (by rw [hv]; decide) (by rw [hv]; decide) (by rw [hv]; rfl) (by decide) (lc_14 hF hLo hcs hL C0 hi0 (by omega) (by omega) hI G hl nx)
        · exact lv_tableIn (off := 493) (tgt := 525) hx hb dL_law_32 (by rw [hv]; decide) (by rw [hv]; decide) (by rw [hv]; rfl) (by decide) (lc_15 hF hLo hcs hL C0 hi0 (by omega) (by omega) hI G hl nx)
        · exact lv_tableIn (off := 516) (tgt := 548) hx hb dL_law_32 (by rw [hv]; decide) (by rw [hv]; decide) (by rw [hv]; rfl) (by decide) (lc_16 hF hLo hcs hL C0 hi0 (by omega) (by omega) hI G hl nx)
        · exact lv_tableIn (off := 539) (tgt := 571) hx hb dL_law_32 (by rw [hv]; decide) (by rw [hv]; decide) (by rw [hv]; rfl) (by decide) (lc_17 hF hLo hcs hL C0 hi0 (by omega) (by omega) hI G hl nx)
        · exact lv_tableIn (off := 562) (tgt := 594) hx hb dL_law_32 (by rw [hv]; decide) (by rw [hv]; decide) (by rw [hv]; rfl) (by decide) (lc_18 hF hLo hcs hL C0 hi0 (by omega) (by omega) hI G hl nx)
        · exact lv_tableIn (off := 585) (tgt := 617) hx hb dL_law_32 (by rw [hv]; decide) (by rw [hv]; decide) (by rw [hv]; rfl) (by decide) (lc_19 hF hLo hcs hL C0 hi0 (by omega) (by omega) hI G hl nx)
        · exact lv_tableIn (off := 608) (tgt := 640) hx hb dL_law_32 (by rw [hv]; decide) (by rw [hv]; decide) (by rw [hv]; rfl) (by decide) (lc_20 hF hLo hcs hL C0 hi0 (by omega) (by omega) hI G hl nx)
        · exact lv_tableIn (off := 631) (tgt := 663) hx hb dL_law_32 (by rw [hv]; decide) (by rw [hv]; decide) (by rw [hv]; rfl) (by decide) (lc_21 hF hLo hcs hL C0 hi0 (by omega) (by omega) hI G hl nx)
        · exact lv_tableIn (off := 654) (tgt := 686) hx hb dL_law_32 (by rw [hv]; decide) (by rw [hv]; decide) (by rw [hv]; rfl) (by decide) (lc_22 hF hLo hcs hL C0 hi0 (by omega) (by omega) hI G hl nx)
        · exact lv_tableIn (off := 667) (tgt := 699) hx hb dL_law_32 (by rw [hv]; decide) (by rw [hv]; decide) (by rw [hv]; rfl) (by decide) (lc_23 hF hLo hcs hL C0 hi0 (by omega) (by omega) hI G hl nx)
        · exact lv_tableIn (off := 680) (tgt := 712) hx hb dL_law_32 (by rw [hv]; decide) (by rw [hv]; decide) (by rw [hv]; rfl) (by decide) (lc_24 hF hLo hcs hL C0 hi0 (by omega) (by omega) hI G hl nx)
        · exact lv_tableIn (off := 703) (tgt := 735) hx hb dL_law_32 (by rw [hv]; decide) (by rw [hv]; decide) (by rw [hv]; rfl) (by decide) (lc_25 hF hLo hcs hL C0 hi0 (by omega) (by omega) hI G hl nx)
        · exact lv_tableIn (off := 716) (tgt := 748) hx hb dL_law_32 (by rw [hv]; decide) (by rw [hv]; decide) (by rw [hv]; rfl) (by decide) (lc_26 hF hLo hcs hL C0 hi0 (by omega) (by omega) hI G hl nx)
        · exact lv_tableIn (off := 739) (tgt := 771) hx hb dL_law_32 (by rw [hv]; decide) (by rw [hv]; decide) (by rw [hv]; rfl) (by decide) (lc_27 hF hLo hcs hL C0 hi0 (by omega) (by omega) hI G hl nx)
      · exact lv_tableOut (tgt := 785) hx hb dL_law_32 (by omega) (by decide) (nx σ H locs hI.mono G)
