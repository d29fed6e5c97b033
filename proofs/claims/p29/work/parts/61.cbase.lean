-- constructors: worlds that grow; the addresses' map is a variable of its own
abbrev gw (w : GW) (g : Nat → Nat) : GW := (w.1, w.2.1, w.2.2.1, g)
def rfOK (SL : List Sh) : Bool := SL.all (fun q => q.2.2.all (fun c => decide (c < SL.length + 3)))
theorem rfOK_of {SL : List Sh} (h : rfOK SL = true) : ∀ q ∈ SL, ∀ c ∈ q.2.2, c < SL.length + 3 := by
  intro q hq c hc
  exact of_decide_eq_true (List.all_eq_true.mp (List.all_eq_true.mp h q hq) c hc)
theorem gV_ext {w : GW} {g g' : Nat → Nat} {n : Nat} (hg : ∀ k, k < n → g' k = g k) (f : Int → Int) (i : Int) {c : Nat} (hc : c < n + 3) : gV (gw w g') f i c = gV (gw w g) f i c := by
  match c, hc with
  | 0, _ => rfl
  | 1, _ => rfl
  | 2, _ => rfl
  | r + 3, hc =>
    show Value.ref (g' r) = Value.ref (g r)
    rw [hg r (by omega)]
theorem gO_ext {w : GW} {g g' : Nat → Nat} {n : Nat} (hg : ∀ k, k < n → g' k = g k) {c : Nat} (hc : c < n + 3) : gO (gw w g') c = gO (gw w g) c := by
  match c, hc with
  | 0, _ => rfl
  | 1, _ => rfl
  | 2, _ => rfl
  | r + 3, hc =>
    show some (g' r) = some (g r)
    rw [hg r (by omega)]
theorem gF_ext {w : GW} {g g' : Nat → Nat} {n : Nat} (hg : ∀ k, k < n → g' k = g k) (f : Int → Int) : ∀ (cs : List Nat) (i : Int), (∀ c ∈ cs, c < n + 3) → gF (gw w g') f i cs = gF (gw w g) f i cs := by
  intro cs
  induction cs with
  | nil => intro i _; rfl
  | cons c cs ih =>
    intro i h
    show gV (gw w g') f i c :: gF (gw w g') f (i + 1) cs = gV (gw w g) f i c :: gF (gw w g) f (i + 1) cs
    rw [gV_ext hg f i (h c List.mem_cons_self), ih (i + 1) (fun c hc => h c (List.mem_cons_of_mem _ hc))]
theorem gE_ext {w : GW} {g g' : Nat → Nat} {n : Nat} (hg : ∀ k, k < n → g' k = g k) (f : Int → Int) (sh : Sh) (h : ∀ c ∈ sh.2.2, c < n + 3) : gE (gw w g') f sh = gE (gw w g) f sh := by
  obtain ⟨a, b, cs⟩ := sh
  match a with
  | 0 => rfl
  | 1 =>
    show (Sum.inr (b, gF (gw w g') f 0 cs) : va_E) = Sum.inr (b, gF (gw w g) f 0 cs)
    rw [gF_ext hg f cs 0 h]
  | a + 2 =>
    have e : (fun j => gO (gw w g') (cs.getD j 2)) = fun j => gO (gw w g) (cs.getD j 2) := by
      funext j
      refine gO_ext hg ?_
      rw [List.getD_eq_getElem?_getD]
      cases e : cs[j]? with
      | none => exact Nat.lt_of_lt_of_le (show 2 < 3 by decide) (Nat.le_add_left 3 n)
      | some c => exact h c (List.mem_of_getElem? e)
    show (Sum.inl (w.2.2.1, b, Sum.inr (Sum.inr (Sum.inr (Sum.inr (fun j => gO (gw w g') (cs.getD j 2)))))) : va_E) = Sum.inl (w.2.2.1, b, Sum.inr (Sum.inr (Sum.inr (Sum.inr (fun j => gO (gw w g) (cs.getD j 2))))))
    rw [e]
theorem gW_app {w : GW} {g g' : Nat → Nat} {SL : List Sh} {sh : Sh} {σ σ' : St} {q : Nat} (hr : ∀ x ∈ SL, ∀ c ∈ x.2.2, c < SL.length + 3) (hg : ∀ k, k < SL.length → g' k = g k) (hq : g' SL.length = q) (hσ : ∀ k, k < SL.length → σ' k = σ k) : gW (gw w g') (SL ++ [sh]) σ' = gW (gw w g) SL σ ++ [(q, gE (gw w g') (σ' SL.length) sh)] := by
  unfold gW
  rw [List.length_append, List.length_singleton, List.range_succ, List.map_append]
  congr 1
  · apply List.map_congr_left
    intro k hk
    have hk := List.mem_range.mp hk
    have e : (SL ++ [sh]).getD k (0, 0, []) = SL.getD k (0, 0, []) := by
      rw [List.getD_eq_getElem?_getD, List.getD_eq_getElem?_getD, List.getElem?_append_left hk]
    have hm : SL.getD k (0, 0, []) ∈ SL := by
      rw [List.getD_eq_getElem?_getD, List.getElem?_eq_getElem hk]
      exact List.getElem_mem hk
    rw [e, hσ k hk, gE_ext hg (σ k) _ (hr _ hm)]
    show (g' k, _) = (g k, _)
    rw [hg k hk]
  · have e : (SL ++ [sh]).getD SL.length (0, 0, []) = sh := by
      rw [List.getD_eq_getElem?_getD, List.getElem?_append_right (Nat.le_refl _), Nat.sub_self]
      rfl
    show [(g' SL.length, gE (gw w g') (σ' SL.length) ((SL ++ [sh]).getD SL.length (0, 0, [])))] = _
    rw [e, hq]
theorem gW_setS {w : GW} {SL : List Sh} {σ : St} {k : Nat} (hk : k < SL.length) (sh : Sh) : (gW w SL σ).set k (gad w k, gE w (σ k) sh) = gW w (SL.set k sh) σ := by
  apply List.ext_getElem?
  intro q
  by_cases hq : q = k
  · subst hq
    rw [List.getElem?_set_self (by rw [gW_len]; exact hk), gW_at (w := w) (SL := SL.set q sh) (σ := σ) (sh := sh) (by rw [List.getElem?_set_self hk])]
  · rw [List.getElem?_set_ne (Ne.symm hq)]
    by_cases hl2 : q < SL.length
    · obtain ⟨sh2, h2⟩ : ∃ z, SL[q]? = some z := ⟨_, List.getElem?_eq_getElem hl2⟩
      rw [gW_at (w := w) (σ := σ) h2, gW_at (w := w) (SL := SL.set k sh) (σ := σ) (sh := sh2) (by rw [List.getElem?_set_ne (Ne.symm hq)]; exact h2)]
    · rw [List.getElem?_eq_none (by rw [gW_len]; omega), List.getElem?_eq_none (by rw [gW_len, List.length_set]; omega)]
theorem gF_setC {w : GW} {f : Int → Int} {cs : List Nat} {j r : Nat} {v : Nat} (hv : gad w r = v) : (gF w f 0 cs).set j (.ref v) = gF w f 0 (cs.set j (r + 3)) := by
  subst hv
  apply List.ext_getElem?
  intro q
  by_cases hq : q = j
  · subst hq
    by_cases hl : q < cs.length
    · rw [List.getElem?_set_self (by rw [gF_len]; exact hl), gF_at, List.getElem?_set_self hl]
      rfl
    · rw [List.getElem?_eq_none (by rw [List.length_set, gF_len]; omega), List.getElem?_eq_none (by rw [gF_len, List.length_set]; omega)]
  · rw [List.getElem?_set_ne (Ne.symm hq), gF_at, gF_at, List.getElem?_set_ne (Ne.symm hq)]
abbrev aoS : State → Prop := va_AO "IslandGrammar$State"
/-- a constructor's start: as a method's, and the word of the State arrays -/
def gPcC (w : GW) (SL : List Sh) (σ : St) (sz : Nat) (av : List Value) : Array Value → State → Prop := va_Pc av (fun U => (U.heap.size = sz ∧ va_P w.1 vwCl (gW w SL σ) U.heap ∧ va_K w.1 vwCl (gT w) U ∧ va_D (fun _ => True) (gW w SL σ) ∧ gNw U) ∧ aoS U)
/-- its end: the world has grown, the old addresses stay -/
abbrev gQc (w : GW) (g : Nat → Nat) (n sz : Nat) (SL' : List Sh) (σ' : St) : Array Value → State → Outcome → State → Prop := va_Qv (fun u : Nat → Nat => ∀ k, k < n → u k = g k) (fun u t => va_P w.1 vwCl (gW (gw w u) SL' σ') t.heap ∧ va_D (gA (gw w g) n sz) (gW (gw w u) SL' σ')) (gA (gw w g) n sz)
theorem iz_0 : iz 0 = 0 := rfl
section GCO
variable {p : Program} {l : Launch} {e : Env} {R : Room} {s : State} {m : MethodId} {args : Array Value} {below : List Frame} {meth : Method} {c : Code} {H : Heap} {locs : List Loc} {cells slots : Nat} {Q : State → Prop}
variable {cc : ByteArray} {pc nL n : Nat} {ls : Array Slot} {rest st : List Value} {A : Nat → Prop} {H0 : Heap} {w : GW} {g : Nat → Nat} {SL SL' : List Sh} {σ : St}
theorem g_metC {y : MethodName} {ret : Option FieldType} {rm : Room} {sz mc ms : Nat} {Qc : Array Value → State → Outcome → State → Prop} (hy : plainName y.cls = true) (av : List Value) (hln : (lg_sl av).length ≤ nL)
    (body : ∀ (p : Program) (e : Env) (s : State) (m : MethodId) (below : List Frame) (meth : Method) (c : Code) (ls : Array Slot), s.heap.size = sz → gC p s m av.toArray meth c cc ret nL y.cls (gA w SL.length sz) → meth.name = y.name → aoS s → lv_has ls nL (lv_args 0 av) → gS w SL σ (gA w SL.length sz) s s.heap s.heap [] → W p l e rm s m av.toArray below meth c s.heap [] 0 0 (MQ below Qc av.toArray s mc ms (gA w SL.length sz)) (F0 m 0 ls [])) :
    Met l y (Cond.code y cc nL ret :: wsL_law) rm (gPcC w SL σ sz av) Qc mc ms (gA w SL.length sz) := by
  refine Met.ofW (cc := cc) (maxL := nL) (ret := ret) hy rfl ?_
  intro p e s m args below meth c s₁ B hml hv
  obtain ⟨rfl, ⟨hsz, hP, hK, hD0, hN⟩, hao⟩ := hv
  have hts := atoms_spec (ws := Cond.code y cc nL ret :: wsL_law) B.pre
  have hown : s.vm.findClass y.cls = some m.cls := findClass_of_methodNamed B.named
  have hl := lv_entry av (n := nL) hln
  rw [lg_entry_eq]
  generalize (lg_sl av ++ List.replicate (nL - (lg_sl av).length) Slot.unset).toArray = ls at hl ⊢
  refine body p e s m below meth c ls hsz ⟨B.exec, B.bytes, B.returns, hml, hown, fun w hw => hts w (List.mem_cons_of_mem _ hw), B.notSynchronized, hN, fun q h => Or.inr (by rw [← hsz]; exact h)⟩ (name_of_methodNamed B.named B.method).1 hao hl ⟨hK, hP, ⟨hD0.1, fun k q hk => ?_⟩, va_S.rf⟩
  obtain ⟨h1, h2⟩ := gW_ad hk
  exact Or.inl ⟨k, h1, h2⟩
theorem g_newO (hexec : p.tables.exec = Jvm.exec) (hb : c.code = cc) (hts : ∀ w ∈ wsL_law, w.before args s = true) {own C : String} (hown : s.vm.findClass own = some m.cls) {T : u_T} {N ci index : Nat} (cs : List Nat) (hin : ∀ w ∈ u_ws C T N, w ∈ wsL_law) (ty0 : Nat → FieldType) (hty : ∀ k, k < N → parseFieldDescriptor (T k).2.2.1 = some (ty0 k)) (G : gS (gw w g) SL σ A s H0 H locs) (hA : ∀ q, H0.size ≤ q → A q) (hn : SL.length = n) (hr : rfOK SL = true) (hc : vwCl[ci]? = some (C, T, N)) (hfs : ∀ j, j < N → defaultValue (ty0 j) = vp_V (gF (gw w g) (fun _ => 0) 0 cs) j) (h0 : ∀ c ∈ cs, c < 3)
    (h1 : Cond.classLink own index C ∈ wsL_law) (h2 : Cond.instantiable C N ∈ wsL_law) (h3 : Cond.initialized C ∈ wsL_law) (hcells : cells + 1 ≤ R.cells) (hslots : slots + N ≤ R.slots) (hdg : decode cc pc = .ok (.new index, 3)) (hSL : SL ++ [(1, ci, cs)] = SL')
    (kk : ∀ (g' : Nat → Nat) (x : Nat) (H1 : Heap), g' n = x → (∀ k, k < n → g' k = g k) → gS (gw w g') SL' (ur σ n (fun _ => 0)) A s H0 H1 locs → W p l e R s m args below meth c H1 locs (cells + 1) (slots + N) Q (F0 m (pc + 3) ls (.ref x :: rest))) : W p l e R s m args below meth c H locs cells slots Q (F0 m pc ls rest) := by
  subst hSL
  subst hn
  refine va_new (ci := ci) (fs := gF (gw w g) (fun _ => 0) 0 cs) hexec hb hts hin ty0 hty hown (hts _ h1) (hts _ h2) (hts _ h3) G.1 G.2.1 G.2.2.1 G.2.2.2 hA hc hfs hcells hslots hdg (fun q H1 hP hD hS => ?_)
  obtain ⟨g', hg', hq⟩ : ∃ g' : Nat → Nat, (∀ k, k < SL.length → g' k = g k) ∧ g' SL.length = q := ⟨fun j => if j = SL.length then q else g j, fun k hk => if_neg (Nat.ne_of_lt hk), if_pos rfl⟩
  have e1 := gW_app (w := w) (sh := (1, ci, cs)) (σ := σ) (σ' := ur σ SL.length (fun _ => 0)) (rfOK_of hr) hg' hq (fun k hk => ur_n σ _ (Nat.ne_of_lt hk))
  have e2 : gE (gw w g') (ur σ SL.length (fun _ => 0) SL.length) (1, ci, cs) = .inr (ci, gF (gw w g) (fun _ => 0) 0 cs) := by
    rw [ur_s]
    show (Sum.inr (ci, gF (gw w g') (fun _ => 0) 0 cs) : va_E) = _
    rw [gF_ext (n := 0) (g := g) (g' := g') (fun k hk => absurd hk (Nat.not_lt_zero k)) (fun _ => 0) cs 0 (fun c hc => h0 c hc)]
  rw [e2] at e1
  rw [← e1] at hP hD
  exact kk g' q H1 hq hg' ⟨G.1, hP, hD, hS⟩
theorem g_newI (hexec : p.tables.exec = Jvm.exec) (hb : c.code = cc) (hts : ∀ w ∈ wsL_law, w.before args s = true) (G : gS (gw w g) SL σ A s H0 H locs) (hA : ∀ q, H0.size ≤ q → A q) (hn : SL.length = n) (hr : rfOK SL = true) (h1 : Cond.arrayClass .int ∈ wsL_law) (N : Nat) {NN : Int} (hNN : NN = (N : Int)) (hN : N < 100000) (hcells : cells + 1 ≤ R.cells) (hslots : slots + N ≤ R.slots) (hdg : decode cc pc = .ok (.newarray .int, 2)) (hSL : SL ++ [(0, N, [])] = SL')
    (kk : ∀ (g' : Nat → Nat) (x : Nat) (H1 : Heap), g' n = x → (∀ k, k < n → g' k = g k) → gS (gw w g') SL' (ur σ n (fun _ => 0)) A s H0 H1 locs → W p l e R s m args below meth c H1 locs (cells + 1) (slots + N) Q (F0 m (pc + 2) ls (.ref x :: rest))) : W p l e R s m args below meth c H locs cells slots Q (F0 m pc ls (.int (iz NN) :: rest)) := by
  subst hSL
  subst hn
  subst hNN
  have hneg : ¬ iz (N : Int) < 0 := fun h => by
    have := (iz_lt (a := (N : Int)) (b := 0) ⟨by omega, by omega⟩ ⟨by decide, by decide⟩).mp h
    omega
  have hcl : (iz (N : Int)).toNatClampNeg = N := by
    rw [iz_cl (by omega) (by omega)]
    omega
  refine va_newa (atype := .int) (ty := .int) (N' := N) (a0 := (N, .inl (fun _ => 0))) hexec hb (hts _ h1) rfl G.1 G.2.1 G.2.2.1 G.2.2.2 hA (fun cA => rfl) hneg hcl (Nat.le_trans (Nat.mul_le_mul_right _ (Nat.le_of_lt hN)) (by decide)) hcells hslots hdg (fun q cA H1 hK hP hD hS => ?_)
  have e3 : s.vm.findClass ("[" ++ FieldType.int.toString) = some cA := (hK.2 2 (cA, .int) rfl).2
  have e4 : s.vm.findClass ("[" ++ FieldType.int.toString) = some w.2.1 := (G.1.2 0 (w.2.1, .int) rfl).2
  have e5 : cA = w.2.1 := Option.some.inj (e3.symm.trans e4)
  subst e5
  obtain ⟨g', hg', hq⟩ : ∃ g' : Nat → Nat, (∀ k, k < SL.length → g' k = g k) ∧ g' SL.length = q := ⟨fun j => if j = SL.length then q else g j, fun k hk => if_neg (Nat.ne_of_lt hk), if_pos rfl⟩
  have e1 := gW_app (w := w) (sh := (0, N, [])) (σ := σ) (σ' := ur σ SL.length (fun _ => 0)) (rfOK_of hr) hg' hq (fun k hk => ur_n σ _ (Nat.ne_of_lt hk))
  have e2 : gE (gw w g') (ur σ SL.length (fun _ => 0) SL.length) (0, N, []) = .inl (w.2.1, N, .inl (fun _ => 0)) := by
    rw [ur_s]
    rfl
  rw [e2] at e1
  rw [← e1] at hP hD
  exact kk g' q H1 hq hg' ⟨G.1, hP, hD, hS⟩
theorem g_newR (hexec : p.tables.exec = Jvm.exec) (hb : c.code = cc) (hts : ∀ w ∈ wsL_law, w.before args s = true) {own : String} {index : Nat} (hown : s.vm.findClass own = some m.cls) (hao : aoS s) (G : gS (gw w g) SL σ A s H0 H locs) (hA : ∀ q, H0.size ≤ q → A q) (hn : SL.length = n) (hr : rfOK SL = true) (h1 : Cond.classLink own index "IslandGrammar$State" ∈ wsL_law) (N : Nat) {NN : Int} (hNN : NN = (N : Int)) (hN : N < 100000) (hcells : cells + 1 ≤ R.cells) (hslots : slots + N ≤ R.slots) (hdg : decode cc pc = .ok (.anewarray index, 3)) (cs : List Nat) (h0 : ∀ j, cs.getD j 2 = 2) (hSL : SL ++ [(2, N, cs)] = SL')
    (kk : ∀ (g' : Nat → Nat) (x : Nat) (H1 : Heap), g' n = x → (∀ k, k < n → g' k = g k) → gS (gw w g') SL' (ur σ n (fun _ => 0)) A s H0 H1 locs → W p l e R s m args below meth c H1 locs (cells + 1) (slots + N) Q (F0 m (pc + 3) ls (.ref x :: rest))) : W p l e R s m args below meth c H locs cells slots Q (F0 m pc ls (.int (iz NN) :: rest)) := by
  subst hSL
  subst hn
  subst hNN
  have hneg : ¬ iz (N : Int) < 0 := fun h => by
    have := (iz_lt (a := (N : Int)) (b := 0) ⟨by omega, by omega⟩ ⟨by decide, by decide⟩).mp h
    omega
  have hcl : (iz (N : Int)).toNatClampNeg = N := by
    rw [iz_cl (by omega) (by omega)]
    omega
  refine va_newq hexec hb hown (hts _ h1) hao G.1 G.2.1 G.2.2.1 G.2.2.2 hA hneg hcl (Nat.le_trans (Nat.mul_le_mul_right _ (Nat.le_of_lt hN)) (by decide)) hcells hslots hdg (fun q cA H1 hK hP hD hS => ?_)
  obtain ⟨kA3, cm3, -, -, -, e3⟩ := (hK.2 2 (cA, .object "IslandGrammar$State") rfl).2
  obtain ⟨kA4, cm4, -, -, -, e4⟩ := (G.1.2 1 (w.2.2.1, .object "IslandGrammar$State") rfl).2
  have e5 : cA = w.2.2.1 := Option.some.inj (e3.symm.trans e4)
  subst e5
  obtain ⟨g', hg', hq⟩ : ∃ g' : Nat → Nat, (∀ k, k < SL.length → g' k = g k) ∧ g' SL.length = q := ⟨fun j => if j = SL.length then q else g j, fun k hk => if_neg (Nat.ne_of_lt hk), if_pos rfl⟩
  have e1 := gW_app (w := w) (sh := (2, N, cs)) (σ := σ) (σ' := ur σ SL.length (fun _ => 0)) (rfOK_of hr) hg' hq (fun k hk => ur_n σ _ (Nat.ne_of_lt hk))
  have e2 : gE (gw w g') (ur σ SL.length (fun _ => 0) SL.length) (2, N, cs) = .inl (w.2.2.1, N, .inr (.inr (.inr (.inr (fun _ => none))))) := by
    have e6 : (fun j => gO (gw w g') (cs.getD j 2)) = fun _ => none := by
      funext j
      rw [h0 j]
      rfl
    show (Sum.inl (w.2.2.1, N, Sum.inr (Sum.inr (Sum.inr (Sum.inr (fun j => gO (gw w g') (cs.getD j 2)))))) : va_E) = _
    rw [e6]
  rw [e2] at e1
  rw [← e1] at hP hD
  exact kk g' q H1 hq hg' ⟨G.1, hP, hD, hS⟩
theorem g_putF (hexec : p.tables.exec = Jvm.exec) (hb : c.code = cc) (hts : ∀ w ∈ wsL_law, w.before args s = true) {own C : String} (hown : s.vm.findClass own = some m.cls) {T : u_T} {N ci index k : Nat} {cs : List Nat} (j r : Nat) (hin : ∀ w ∈ u_ws C T N, w ∈ wsL_law) (ty0 : Nat → FieldType) (hty : ∀ k, k < N → parseFieldDescriptor (T k).2.2.1 = some (ty0 k)) (hnm : ∀ a, a < N → ∀ b, b < N → a ≠ b → (T a).2.1 ≠ (T b).2.1) (G : gS (gw w g) SL σ A s H0 H locs) (hsh : SL[k]? = some (1, ci, cs)) (hc : vwCl[ci]? = some (C, T, N)) (hk : j < N) (hj : j < cs.length) (hlink : Cond.fieldLink own index (T j).1 (T j).2.1 (T j).2.2.1 ∈ wsL_law) (hfin : (T j).2.2.2 = true) (hin2 : meth.name = "<init>") (hdecl : (T j).1 = own) {a v : Nat} (hn : narrow (ty0 j) (.ref v) = .ref v) (hfit : fits (ty0 j) (.ref v) = true) (hdg : decode cc pc = .ok (.putfield index, 3)) (ha : g k = a) (hv : g r = v) (hSL : SL.set k (1, ci, cs.set j (r + 3)) = SL')
    (kk : ∀ (H1 : Heap) (locs1 : List Loc), gS (gw w g) SL' σ A s H0 H1 locs1 → W p l e R s m args below meth c H1 locs1 cells slots Q (F0 m (pc + 3) ls rest)) : W p l e R s m args below meth c H locs cells slots Q (F0 m pc ls (.ref v :: .ref a :: rest)) := by
  subst hSL
  subst ha
  have hkl := (List.getElem?_eq_some_iff.mp hsh).1
  have e1 := gW_setS (w := gw w g) (σ := σ) hkl (1, ci, cs.set j (r + 3))
  have e2 : gE (gw w g) (σ k) (1, ci, cs.set j (r + 3)) = .inr (ci, (gF (gw w g) (σ k) 0 cs).set j (.ref v)) := by
    rw [gF_setC (w := gw w g) hv]
    rfl
  rw [e2] at e1
  refine va_putF hexec hb hts hin ty0 hty hnm hown G.1 G.2.1 G.2.2.1 G.2.2.2 k (gW_at hsh) hc j hk (hts _ hlink) (fun _ h => h) hfin hin2 hdecl (hty j hk) hn hfit (by rw [gF_len]; exact hj) hdg (fun H1 locs1 hP hD hS => kk H1 locs1 ⟨G.1, ?_, ?_, hS⟩)
  · rw [← e1]
    exact hP
  · rw [← e1]
    exact hD
theorem g_astR (hexec : p.tables.exec = Jvm.exec) (hb : c.code = cc) (G : gS (gw w g) SL σ A s H0 H locs) {k r N : Nat} {cs vs : List Nat} (hsh : SL[k]? = some (2, N, cs)) (hr : SL[r]? = some (1, 5, vs)) {i : Nat} {ii : Int} (hii : ii = (i : Int)) (hi : i < N) (hN : N < 100000) (hj : i < cs.length) (hdg : decode cc pc = .ok (.aastore, 1)) {a v : Nat} (ha : g k = a) (hv : g r = v) (hSL : SL.set k (2, N, cs.set i (r + 3)) = SL')
    (kk : ∀ (H1 : Heap) (locs1 : List Loc), gS (gw w g) SL' σ A s H0 H1 locs1 → W p l e R s m args below meth c H1 locs1 cells slots Q (F0 m (pc + 1) ls rest)) : W p l e R s m args below meth c H locs cells slots Q (F0 m pc ls (.ref v :: .int (iz ii) :: .ref a :: rest)) := by
  subst hSL
  subst hii
  subst ha
  subst hv
  have hkl := (List.getElem?_eq_some_iff.mp hsh).1
  have e1 := gW_setS (w := gw w g) (σ := σ) hkl (2, N, cs.set i (r + 3))
  have hcl : (iz (i : Int)).toNatClampNeg = i := by
    rw [iz_cl (by omega) (by omega)]
    omega
  have e2 : gE (gw w g) (σ k) (2, N, cs.set i (r + 3)) = .inl (w.2.2.1, N, .inr (.inr (.inr (.inr (va_up (fun j => gO (gw w g) (cs.getD j 2)) (iz (i : Int)).toNatClampNeg (some (g r))))))) := by
    have e6 : (fun j => gO (gw w g) ((cs.set i (r + 3)).getD j 2)) = va_up (fun j => gO (gw w g) (cs.getD j 2)) (iz (i : Int)).toNatClampNeg (some (g r)) := by
      funext j
      unfold va_up
      rw [hcl]
      show gO (gw w g) ((cs.set i (r + 3)).getD j 2) = if j = i then some (g r) else gO (gw w g) (cs.getD j 2)
      rw [List.getD_eq_getElem?_getD, List.getD_eq_getElem?_getD]
      by_cases q : j = i
      · subst q
        rw [if_pos rfl, List.getElem?_set_self hj]
        rfl
      · rw [if_neg q, List.getElem?_set_ne (Ne.symm q)]
    show (Sum.inl (w.2.2.1, N, Sum.inr (Sum.inr (Sum.inr (Sum.inr (fun j => gO (gw w g) ((cs.set i (r + 3)).getD j 2)))))) : va_E) = _
    rw [e6]
  rw [e2] at e1
  refine va_astq hexec hb G.1 G.2.1 G.2.2.1 G.2.2.2 k 1 r 5 (gW_at hsh) rfl (gW_at hr) rfl (show vp_in (iz (i : Int)) N from iz_in (by omega) (by omega) (by omega)) hdg (fun H1 locs1 hP hD hS => kk H1 locs1 ⟨G.1, ?_, ?_, hS⟩)
  · rw [← e1]
    exact hP
  · rw [← e1]
    exact hD
theorem gPcC_blind {w : GW} {SL : List Sh} {sz : Nat} {av : List Value} : FrameBlind (gPcC w SL σ sz av) := fun a U g mk q => by
  obtain ⟨q0, ⟨q1, qP, qK, qD, qN⟩, qA⟩ := q
  exact ⟨q0, ⟨q1, qP, va_K.moved (u := U) (U := U.calling g mk a) (Vm.Alike.refl U.vm) qK, qD, gNw.same rfl qN⟩, va_AO.moved (u := U) (U := U.calling g mk a) (Vm.Alike.refl U.vm) qA⟩
theorem gPreC {w : GW} {SL : List Sh} {As : List Value} (G : gS w SL σ A s H0 H locs) (hN : gNw s) (hao : aoS s) : PreS s H (gPcC w SL σ H.size As) As := ⟨gPcC_blind, fun U hU hW =>
  ⟨rfl, ⟨by rw [hU], by rw [hU]; exact G.2.1, va_K.moved hW.alike G.1, G.2.2.1.weaken (fun _ _ _ _ => trivial), hN.warm hW⟩, va_AO.moved hW.alike hao⟩⟩
theorem g_doneC {w : GW} {mc ms n0 : Nat} {σ' : St} {a : Array Value} (G : gS (gw w g) SL σ A s H0 H locs) (hn : SL.length = n0) (hA : ∀ q, H0.size ≤ q → A q) (hr : va_Run p l e R s m args below meth c H locs cells slots mc ms (F0 m pc ls st) rest (gQc w g SL.length H.size SL' σ' a) (gA (gw w g) SL.length H.size)) (kk : ∀ (g' : Nat → Nat) (H1 : Heap) (locs1 : List Loc), (∀ k, k < n0 → g' k = g k) → gS (gw w g') SL' σ' A s H0 H1 locs1 → W p l e R s m args below meth c H1 locs1 (cells + mc) (slots + ms) Q (F0 m (pc + 3) ls rest)) : W p l e R s m args below meth c H locs cells slots Q (F0 m pc ls st) := by
  subst hn
  refine va_callv hr G.2.2.2 (fun q _ h => gIn G hA q h) (gIn G hA) (fun u t H1 locs1 ht hvm hw hB hz1 hk1 hS => ?_)
  refine kk u H1 locs1 hw ⟨G.1, ?_, ?_, hS⟩
  · rw [← ht]
    exact hB.1
  · exact hB.2.weaken (fun k q _ h => gIn G hA q.1 h)
theorem g_callC (hexec : p.tables.exec = Jvm.exec) (hb : c.code = cc) (hml : c.maxLocals = nL) (hts : ∀ w ∈ wsL_law, w.before args s = true) {own : String} (hown : s.vm.findClass own = some m.cls) (hN : gNw s) (hao : aoS s) (hA : ∀ q, H0.size ≤ q → A q) (G : gS (gw w g) SL σ A s H0 H locs) {y : MethodName} {bytes : ByteArray} {maxL n index mc ms n0 : Nat} {rm : Room} {x : Nat} (As : List Value) {σ' : St} (hM : Met l y (Cond.code y bytes maxL none :: wsL_law) rm (gPcC (gw w g) SL σ H.size (.ref x :: As)) (gQc w g SL.length H.size SL' σ') mc ms (gA (gw w g) SL.length H.size)) (hn0 : SL.length = n0) (h1 : Cond.methodLink own index y ∈ wsL_law) (h2 : Cond.instanceMethod y ∈ wsL_law) (h4 : Cond.initialized y.cls ∈ wsL_law) (h5 : Cond.code y bytes maxL none ∈ wsL_law) (hy : y.name = "<init>") (hd : y.cls ≠ "java/lang/invoke/MethodHandle" ∧ y.cls ≠ "java/lang/invoke/VarHandle" ∧ (parseMethodDescriptor y.desc).map (fun d => d.parameters.length) = some n) (hR : rm.cells = mc ∧ rm.slots = ms ∧ rm.frames + 1 ≤ R.frames ∧ 8 + (maxL + 11) + rm.locals ≤ R.locals) (hn : As.length = n) (hsz : ls.size = nL) (hst : (rest.map fun v => v.category).sum ≤ 8) (hstk : st = As.reverse ++ .ref x :: rest) (hdg : decode cc pc = .ok (.invokespecial index, 3)) (hf : cells + mc ≤ R.cells ∧ slots + ms ≤ R.slots)
    (kk : ∀ (g' : Nat → Nat) (H1 : Heap) (locs1 : List Loc), (∀ k, k < n0 → g' k = g k) → gS (gw w g') SL' σ' A s H0 H1 locs1 → W p l e R s m args below meth c H1 locs1 (cells + mc) (slots + ms) Q (F0 m (pc + 3) ls rest)) : W p l e R s m args below meth c H locs cells slots Q (F0 m pc ls st) :=
  g_doneC G hn0 hA (va_runI (As := As) (rest := rest) ⟨hexec, hb, hml, hown, hts⟩ hM (cwI n hts (gGoodC h5) rfl hR.1 hR.2.1 (hts _ h4) (hts _ h1) (hts _ h2) hy hd ⟨hR.2.2.1, hR.2.2.2⟩) (gPreC G hN hao) rfl hn hsz hstk (lv_room hst) hdg hf) kk
theorem g_callCN (hexec : p.tables.exec = Jvm.exec) (hb : c.code = cc) (hml : c.maxLocals = nL) (hts : ∀ w ∈ wsL_law, w.before args s = true) {own host : String} (hown : s.vm.findClass own = some m.cls) (hN : gNw s) (hao : aoS s) (hA : ∀ q, H0.size ≤ q → A q) (G : gS (gw w g) SL σ A s H0 H locs) {y : MethodName} {bytes : ByteArray} {maxL n index mc ms n0 : Nat} {rm : Room} {x : Nat} (As : List Value) {σ' : St} (hM : Met l y (Cond.code y bytes maxL none :: wsL_law) rm (gPcC (gw w g) SL σ H.size (.ref x :: As)) (gQc w g SL.length H.size SL' σ') mc ms (gA (gw w g) SL.length H.size)) (hn0 : SL.length = n0) (h1 : (own, index, y, host) ∈ gNl) (h2 : Cond.instanceMethod y ∈ wsL_law) (h4 : Cond.initialized y.cls ∈ wsL_law) (h5 : Cond.code y bytes maxL none ∈ wsL_law) (hy : y.name = "<init>") (hd : y.cls ≠ "java/lang/invoke/MethodHandle" ∧ y.cls ≠ "java/lang/invoke/VarHandle" ∧ (parseMethodDescriptor y.desc).map (fun d => d.parameters.length) = some n) (hR : rm.cells = mc ∧ rm.slots = ms ∧ rm.frames + 1 ≤ R.frames ∧ 8 + (maxL + 11) + rm.locals ≤ R.locals) (hn : As.length = n) (hsz : ls.size = nL) (hst : (rest.map fun v => v.category).sum ≤ 8) (hstk : st = As.reverse ++ .ref x :: rest) (hdg : decode cc pc = .ok (.invokespecial index, 3)) (hf : cells + mc ≤ R.cells ∧ slots + ms ≤ R.slots)
    (kk : ∀ (g' : Nat → Nat) (H1 : Heap) (locs1 : List Loc), (∀ k, k < n0 → g' k = g k) → gS (gw w g') SL' σ' A s H0 H1 locs1 → W p l e R s m args below meth c H1 locs1 (cells + mc) (slots + ms) Q (F0 m (pc + 3) ls rest)) : W p l e R s m args below meth c H locs cells slots Q (F0 m pc ls st) :=
  g_doneC G hn0 hA (va_runIN (As := As) (rest := rest) ⟨hexec, hb, hml, hown, hts⟩ hM ⟨va_cnB n hts (gGoodC h5) rfl hR.1 hR.2.1 (hN _ h1) (hts _ h4) hd ⟨hR.2.2.1, hR.2.2.2⟩, hy, hts _ h2⟩ (gPreC G hN hao) rfl hn hsz hstk (lv_room hst) hdg hf) kk
theorem g_cret {w : GW} {g0 : Nat → Nat} {SL0 : List Sh} {n0 mc ms sz : Nat} (hexec : p.tables.exec = Jvm.exec) (hb : c.code = cc) (hr : meth.sig.returnType = none) (hlk : meth.locks = false) (hn : SL0.length = n0) (hz : s.heap.size = sz) (E : ∀ k, k < n0 → g k = g0 k) (G : gS (gw w g) SL' σ (gA (gw w g0) SL0.length sz) s s.heap H locs) (hc : cells ≤ mc) (hs : slots ≤ ms) (hdg : decode cc pc = .ok (.return_, 1)) : W p l e R s m args below meth c H locs cells slots (MQ below (gQc w g0 SL0.length sz SL' σ) args s mc ms (gA (gw w g0) SL0.length sz)) (F0 m pc ls []) := by
  subst hn
  exact W.widen hc hs (W.vret hexec hb hr (fun t ht hW => ⟨⟨g, rfl, E, by rw [ht]; exact G.2.1, G.2.2.1⟩, G.2.2.2.F ht⟩) G.2.2.2.2.2 hdg hlk)
theorem g_getA (hexec : p.tables.exec = Jvm.exec) (hb : c.code = cc) (hts : ∀ w ∈ wsL_law, w.before args s = true) {own C : String} (hown : s.vm.findClass own = some m.cls) {T : u_T} {N ci index : Nat} {cs : List Nat} {k : Nat} (j r : Nat) (hin : ∀ w ∈ u_ws C T N, w ∈ wsL_law) (G : gS (gw w g) SL σ A s H0 H locs) (hsh : SL[k]? = some (1, ci, cs)) (hc : vwCl[ci]? = some (C, T, N)) (hk : j < N) (hj : cs[j]? = some (r + 3)) (hlink : Cond.fieldLink own index (T j).1 (T j).2.1 (T j).2.2.1 ∈ wsL_law) (hdg : decode cc pc = .ok (.getfield index, 3)) {a v : Nat} (ha : g k = a) (hv : g r = v)
    (kk : W p l e R s m args below meth c H locs cells slots Q (F0 m (pc + 3) ls (.ref v :: rest))) : W p l e R s m args below meth c H locs cells slots Q (F0 m pc ls (.ref a :: rest)) := by
  subst ha
  subst hv
  exact g_getR hexec hb hts hown j r hin G hsh hc hk hj hlink hdg kk
theorem g_putA (hexec : p.tables.exec = Jvm.exec) (hb : c.code = cc) (hts : ∀ w ∈ wsL_law, w.before args s = true) {own C : String} (hown : s.vm.findClass own = some m.cls) {T : u_T} {N ci index : Nat} {cs : List Nat} {k : Nat} (j : Nat) (hin : ∀ w ∈ u_ws C T N, w ∈ wsL_law) (ty0 : Nat → FieldType) (hty : ∀ k, k < N → parseFieldDescriptor (T k).2.2.1 = some (ty0 k)) (hnm : ∀ a, a < N → ∀ b, b < N → a ≠ b → (T a).2.1 ≠ (T b).2.1) (G : gS (gw w g) SL σ A s H0 H locs) (hsh : SL[k]? = some (1, ci, cs)) (hc : vwCl[ci]? = some (C, T, N)) (hk : j < N) (hj : cs[j]? = some 0) (hlink : Cond.fieldLink own index (T j).1 (T j).2.1 (T j).2.2.1 ∈ wsL_law) (hfin : (T j).2.2.2 = false) {x : Int} (hn : narrow (ty0 j) (.int (iz x)) = .int (iz x)) (hfit : fits (ty0 j) (.int (iz x)) = true) (hdg : decode cc pc = .ok (.putfield index, 3)) {a : Nat} (ha : g k = a)
    (kk : ∀ (H1 : Heap) (locs1 : List Loc), gS (gw w g) SL (up σ k j x) A s H0 H1 locs1 → W p l e R s m args below meth c H1 locs1 cells slots Q (F0 m (pc + 3) ls rest)) : W p l e R s m args below meth c H locs cells slots Q (F0 m pc ls (.int (iz x) :: .ref a :: rest)) := by
  subst ha
  exact g_putI hexec hb hts hown j hin ty0 hty hnm G hsh hc hk hj hlink hfin hn hfit hdg (fun σ1 e1 H1 locs1 G1 => kk H1 locs1 (by rw [← e1]; exact G1))
theorem g_astA (hexec : p.tables.exec = Jvm.exec) (hb : c.code = cc) (G : gS (gw w g) SL σ A s H0 H locs) {k N : Nat} {cs : List Nat} (hsh : SL[k]? = some (0, N, cs)) {i x : Int} (h0 : 0 ≤ i) (h1 : i < (N : Int)) (hn : N < 2147483648) (hdg : decode cc pc = .ok (.iastore, 1)) {a : Nat} (ha : g k = a)
    (kk : ∀ (H1 : Heap) (locs1 : List Loc), gS (gw w g) SL (up σ k i x) A s H0 H1 locs1 → W p l e R s m args below meth c H1 locs1 cells slots Q (F0 m (pc + 1) ls rest)) : W p l e R s m args below meth c H locs cells slots Q (F0 m pc ls (.int (iz x) :: .int (iz i) :: .ref a :: rest)) := by
  subst ha
  exact g_ast hexec hb G hsh h0 h1 hn hdg (fun σ1 e1 H1 locs1 G1 => kk H1 locs1 (by rw [← e1]; exact G1))
theorem g_objI (hexec : p.tables.exec = Jvm.exec) (hb : c.code = cc) (hml : c.maxLocals = nL) (hts : ∀ w ∈ wsL_law, w.before args s = true) {own : String} {index : Nat} (hown : s.vm.findClass own = some m.cls) (h1 : Cond.methodLink own index objectInit ∈ wsL_law) (h2 : Cond.instanceMethod objectInit ∈ wsL_law) (h3 : Cond.code objectInit ⟨#[0xb1]⟩ 1 none ∈ wsL_law) (hsz : ls.size = nL) (hst : (rest.map fun v => v.category).sum + 12 ≤ R.locals) (hfr : 1 ≤ R.frames) (hdg : decode cc pc = .ok (.invokespecial index, 3)) {a : Nat}
    (kk : W p l e R s m args below meth c H locs cells slots Q (F0 m (pc + 3) ls rest)) : W p l e R s m args below meth c H locs cells slots Q (F0 m pc ls (.ref a :: rest)) :=
  W.objInit hexec hb hown (hts _ h1) (hts _ h2) (hts _ h3) rfl (hsz.trans hml.symm) rfl hdg hfr (by show 0 + _ + 12 ≤ _; omega) (W.eq (g2 := F0 m (pc + 3) ls rest) rfl kk)
end GCO
