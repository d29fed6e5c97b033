-- numbers: every int of the machine is iz of an integer, every long lz of one
abbrev iz (a : Int) : Int32 := Int32.ofInt a
abbrev lz (a : Int) : Int64 := Int64.ofInt a
abbrev inR (a : Int) : Prop := -2147483648 ≤ a ∧ a ≤ 2147483647
theorem iz_toInt {a : Int} (h : inR a) : (iz a).toInt = a := Int32.toInt_ofInt_of_le (by have := h.1; omega) (by have := h.2; omega)
theorem iz_lt {a b : Int} (ha : inR a) (hb : inR b) : iz a < iz b ↔ a < b := by rw [Int32.lt_iff_toInt_lt, iz_toInt ha, iz_toInt hb]
theorem iz_le {a b : Int} (ha : inR a) (hb : inR b) : iz a ≤ iz b ↔ a ≤ b := by rw [Int32.le_iff_toInt_le, iz_toInt ha, iz_toInt hb]
theorem iz_eq {a b : Int} (ha : inR a) (hb : inR b) : iz a = iz b ↔ a = b := by rw [← Int32.toInt_inj, iz_toInt ha, iz_toInt hb]
theorem iz_cl {i : Int} (h0 : 0 ≤ i) (h1 : i < 2147483648) : (iz i).toNatClampNeg = i.toNat := Int32.toNatClampNeg_ofInt_of_le (by omega) (by omega)
theorem iz_in {i : Int} {n : Nat} (h0 : 0 ≤ i) (h1 : i < (n : Int)) (hn : n < 2147483648) : vp_in (iz i) n := by
  intro h
  rcases h with h | h
  · have := (iz_lt (a := i) (b := 0) ⟨by omega, by omega⟩ ⟨by decide, by decide⟩).mp h
    omega
  · rw [iz_cl h0 (by omega)] at h
    omega
theorem iz_rem {a b : Int} (h0 : 0 ≤ a) (h1 : a ≤ 2147483647) (h2 : 0 < b) (h3 : b ≤ 2147483647) : iz a - iz a / iz b * iz b = iz (a % b) := by
  obtain ⟨x, rfl⟩ := Int.eq_ofNat_of_zero_le h0
  obtain ⟨y, rfl⟩ := Int.eq_ofNat_of_zero_le (Int.le_of_lt h2)
  have e1 : iz (x : Int) = nI x := Int32.ofInt_eq_ofNat
  have e2 : iz (y : Int) = nI y := Int32.ofInt_eq_ofNat
  have e3 : iz ((x : Int) % (y : Int)) = nI (x % y) := by rw [← Int.natCast_emod]; exact Int32.ofInt_eq_ofNat
  rw [e1, e2, e3]
  exact pk_rem (by omega) (by omega) (by omega)
theorem iz_l {a : Int} (h : inR a) : (iz a).toInt64 = lz a := by rw [← Int64.ofInt_int32ToInt, iz_toInt h]
theorem iz_i (x : Int32) : ∃ a : Int, x = iz a ∧ inR a := ⟨x.toInt, (Int32.ofInt_toInt x).symm, by
  have h1 := x.le_toInt
  have h2 := x.toInt_lt
  exact ⟨by omega, by omega⟩⟩
-- the state: what the ints, by cell and place, are
abbrev St : Type := Nat → Int → Int
def ui (f : Int → Int) (i v : Int) : Int → Int := fun j => if j = i then v else f j
def ur (σ : St) (k : Nat) (f : Int → Int) : St := fun q => if q = k then f else σ q
def up (σ : St) (k : Nat) (i v : Int) : St := ur σ k (ui (σ k) i v)
theorem ur_s (σ : St) (k : Nat) (f : Int → Int) : ur σ k f k = f := by simp [ur]
theorem ur_n (σ : St) {k q : Nat} (f : Int → Int) (h : q ≠ k) : ur σ k f q = σ q := by simp [ur, h]
theorem up_s (σ : St) (k : Nat) (i v : Int) : up σ k i v k = ui (σ k) i v := ur_s _ _ _
theorem up_n (σ : St) {k q : Nat} (i v : Int) (h : q ≠ k) : up σ k i v q = σ q := ur_n _ _ h
theorem ui_s (f : Int → Int) (i v : Int) : ui f i v i = v := by simp [ui]
theorem ui_n (f : Int → Int) {i j : Int} (v : Int) (h : j ≠ i) : ui f i v j = f j := by simp [ui, h]
-- shapes of cells: (0, n, _) an int array of n; (1, ci, codes) an object of class ci; (2, n, codes) an array of n State references. Codes: 0 int, 1 long, 2 null, r + 3 the cell r
abbrev Sh : Type := Nat × Nat × List Nat
abbrev GW : Type := va_G × ClassId × ClassId × (Nat → Nat)
abbrev gad (w : GW) : Nat → Nat := w.2.2.2
def gV (w : GW) (f : Int → Int) (i : Int) (c : Nat) : Value := match c with
  | 0 => .int (iz (f i))
  | 1 => .long (lz (f i))
  | 2 => .null
  | r + 3 => .ref (gad w r)
def gF (w : GW) (f : Int → Int) : Int → List Nat → List Value
  | _, [] => []
  | i, c :: cs => gV w f i c :: gF w f (i + 1) cs
def gO (w : GW) (c : Nat) : Option Nat := match c with
  | r + 3 => some (gad w r)
  | _ => none
def gE (w : GW) (f : Int → Int) (sh : Sh) : va_E := match sh.1 with
  | 0 => .inl (w.2.1, sh.2.1, .inl (fun j : Nat => iz (f (j : Int))))
  | 1 => .inr (sh.2.1, gF w f 0 sh.2.2)
  | _ => .inl (w.2.2.1, sh.2.1, .inr (.inr (.inr (.inr (fun j => gO w (sh.2.2.getD j 2))))))
theorem gF_at (w : GW) (f : Int → Int) (cs : List Nat) : ∀ (i : Int) (j : Nat), (gF w f i cs)[j]? = (cs[j]?).map (fun c => gV w f (i + j) c) := by
  induction cs with
  | nil => intro i j; simp [gF]
  | cons c cs ih =>
    intro i j
    cases j with
    | zero => simp [gF]
    | succ j =>
      simp only [gF, List.getElem?_cons_succ, ih]
      congr 1
      funext c
      congr 1
      omega
theorem gF_len (w : GW) (f : Int → Int) (cs : List Nat) : ∀ (i : Int), (gF w f i cs).length = cs.length := by
  induction cs with
  | nil => intro i; simp [gF]
  | cons c cs ih => intro i; simp [gF, ih]
theorem gV_ui (w : GW) (f : Int → Int) {i j : Int} (v : Int) (c : Nat) (h : j ≠ i) : gV w (ui f i v) j c = gV w f j c := by
  unfold gV
  rw [ui_n f v h]
theorem gF_set (w : GW) (f : Int → Int) (cs : List Nat) (j : Nat) (v : Int) (x : Value) (c : Nat) (hc : cs[j]? = some c) (hx : gV w (ui f j v) j c = x) : (gF w f 0 cs).set j x = gF w (ui f j v) 0 cs := by
  apply List.ext_getElem?
  intro q
  by_cases hq : q = j
  · subst hq
    have hl : q < (gF w f 0 cs).length := by rw [gF_len]; exact (List.getElem?_eq_some_iff.mp hc).1
    rw [List.getElem?_set_self hl, gF_at, hc]
    simp only [Option.map_some, Int.zero_add]
    rw [hx]
  · rw [List.getElem?_set_ne (Ne.symm hq), gF_at, gF_at]
    congr 1
    funext c
    rw [gV_ui w f v c (by omega)]
-- the world: the cells of a list of shapes
def gW (w : GW) (SL : List Sh) (σ : St) : va_W := (List.range SL.length).map (fun k => (gad w k, gE w (σ k) (SL.getD k (0, 0, []))))
theorem gW_len (w : GW) (SL : List Sh) (σ : St) : (gW w SL σ).length = SL.length := by simp [gW]
theorem gW_at {w : GW} {SL : List Sh} {σ : St} {k : Nat} {sh : Sh} (h : SL[k]? = some sh) : (gW w SL σ)[k]? = some (gad w k, gE w (σ k) sh) := by
  have hl := (List.getElem?_eq_some_iff.mp h).1
  have : SL.getD k (0, 0, []) = sh := by rw [List.getD_eq_getElem?_getD, h]; rfl
  have h2 : (SL[k]?).getD (0, 0, []) = sh := by rw [h]; rfl
  simp [gW, List.getElem?_map, List.getElem?_range hl, h2]
theorem gW_ad {w : GW} {SL : List Sh} {σ : St} {k : Nat} {q : Nat × va_E} (h : (gW w SL σ)[k]? = some q) : k < SL.length ∧ q.1 = gad w k := by
  have hl := (List.getElem?_eq_some_iff.mp h).1
  rw [gW_len] at hl
  refine ⟨hl, ?_⟩
  simp [gW, List.getElem?_map, List.getElem?_range hl] at h
  rw [← h]
theorem gW_set {w : GW} {SL : List Sh} {σ : St} {k : Nat} {sh : Sh} (h : SL[k]? = some sh) (f : Int → Int) (e : va_E) (he : e = gE w f sh) : (gW w SL σ).set k (gad w k, e) = gW w SL (ur σ k f) := by
  subst he
  have hl := (List.getElem?_eq_some_iff.mp h).1
  apply List.ext_getElem?
  intro q
  by_cases hq : q = k
  · subst hq
    rw [List.getElem?_set_self (by rw [gW_len]; exact hl), gW_at (w := w) (σ := ur σ q f) h, ur_s]
  · rw [List.getElem?_set_ne (Ne.symm hq)]
    by_cases hl2 : q < SL.length
    · obtain ⟨sh2, h2⟩ : ∃ z, SL[q]? = some z := ⟨_, List.getElem?_eq_getElem hl2⟩
      rw [gW_at (w := w) (σ := σ) h2, gW_at (w := w) (σ := ur σ k f) h2, ur_n σ f hq]
    · rw [List.getElem?_eq_none (by rw [gW_len]; omega), List.getElem?_eq_none (by rw [gW_len]; omega)]
/-- the cells that a method may change: the world's, and new ones -/
def gA (w : GW) (n sz : Nat) : Nat → Prop := fun q => (∃ k, k < n ∧ q = gad w k) ∨ sz ≤ q
abbrev gT (w : GW) : List (ClassId × FieldType) := [(w.2.1, .int), (w.2.2.1, .object "IslandGrammar$State")]
def gS (w : GW) (SL : List Sh) (σ : St) (A : Nat → Prop) (s : State) (H0 H : Heap) (locs : List Loc) : Prop :=
  va_K w.1 vwCl (gT w) s ∧ va_P w.1 vwCl (gW w SL σ) H ∧ va_D A (gW w SL σ) ∧ va_S A H0 H locs
theorem gD_eq {w : GW} {SL : List Sh} {σ σ' : St} {A : Nat → Prop} (h : va_D A (gW w SL σ)) : va_D A (gW w SL σ') := by
  have key : ∀ (k : Nat) (q : Nat × va_E), (gW w SL σ')[k]? = some q → ∃ q0 : Nat × va_E, (gW w SL σ)[k]? = some q0 ∧ q0.1 = q.1 := by
    intro k q hk
    obtain ⟨h1, h2⟩ := gW_ad hk
    refine ⟨_, gW_at (List.getElem?_eq_getElem h1), h2.symm⟩
  refine ⟨fun i j p q hi hj hpq => ?_, fun k q hk => ?_⟩
  · obtain ⟨p0, h1, h2⟩ := key i p hi
    obtain ⟨q0, h3, h4⟩ := key j q hj
    exact h.1 i j p0 q0 h1 h3 (by rw [h2, h4, hpq])
  · obtain ⟨q0, h1, h2⟩ := key k q hk
    rw [← h2]
    exact h.2 k q0 h1
theorem gA_of {w : GW} {SL : List Sh} {σ : St} {A : Nat → Prop} {H0 H : Heap} {locs : List Loc} (hD : va_D A (gW w SL σ)) (hS : va_S A H0 H locs) (hA : ∀ q, H0.size ≤ q → A q) : ∀ q, gA w SL.length H.size q → A q := by
  intro q h
  rcases h with ⟨k, hk, rfl⟩ | h
  · exact hD.2 k _ (gW_at (List.getElem?_eq_getElem hk))
  · exact hA q (Nat.le_trans hS.1 h)
-- links between nest mates, which the words' list doesn't hold
def gNl : List (String × Nat × MethodName × String) := [("IslandGrammar", 18, yX1_init, "IslandGrammar"), ("IslandGrammar$Matcher", 28, yX0_init, "IslandGrammar"), ("IslandGrammar$Matcher", 67, yX6_isDigit, "IslandGrammar"), ("IslandGrammar$Matcher", 77, yX6_isLetter, "IslandGrammar"), ("IslandGrammar$Matcher", 60, yX6_isReference, "IslandGrammar"), ("IslandGrammar$Nodes", 132, yX6_isReference, "IslandGrammar"), ("IslandGrammar$Row", 25, yX6_mix, "IslandGrammar"), ("IslandGrammar$State", 52, yX6_mix, "IslandGrammar"), ("IslandGrammar$Nodes", 90, yX6_mix, "IslandGrammar")]
def gNw (U : State) : Prop := ∀ q ∈ gNl, va_Nw (.methodLinkNest q.1 q.2.1 q.2.2.1 q.2.2.2) U
theorem gNw.warm {s U : State} (hW : s.WarmedH U.vm) (h : gNw s) : gNw U := fun q hq => va_Nw.warmM hW (h q hq)
theorem gNw.same {u U : State} (e : u.vm = U.vm) (h : gNw u) : gNw U := fun q hq => va_Nw.same rfl e (h q hq)
-- the start and the end of a method of the whole system (n cells)
def gPc (w : GW) (SL : List Sh) (σ : St) (sz : Nat) (av : List Value) : Array Value → State → Prop := va_Pc av (fun U => U.heap.size = sz ∧ va_P w.1 vwCl (gW w SL σ) U.heap ∧ va_K w.1 vwCl (gT w) U ∧ va_D (fun _ => True) (gW w SL σ) ∧ gNw U)
abbrev gB (w : GW) (SL : List Sh) (σ : St) (t : State) : Prop := va_P w.1 vwCl (gW w SL σ) t.heap
abbrev gQi (w : GW) (SL : List Sh) (sz : Nat) (post : Int → St → Prop) : Array Value → State → Outcome → State → Prop := va_Qi (fun r (u : Int × St) => r = iz u.1 ∧ post u.1 u.2) (fun u t => gB w SL u.2 t) (gA w SL.length sz)
abbrev gQl (w : GW) (SL : List Sh) (sz : Nat) (post : Int → St → Prop) : Array Value → State → Outcome → State → Prop := va_Ql (fun r (u : Int × St) => r = lz u.1 ∧ post u.1 u.2) (fun u t => gB w SL u.2 t) (gA w SL.length sz)
abbrev gQv (w : GW) (SL : List Sh) (sz : Nat) (post : St → Prop) : Array Value → State → Outcome → State → Prop := va_Qv (fun u : St => post u) (fun u t => gB w SL u t) (gA w SL.length sz)
abbrev gQr (w : GW) (SL : List Sh) (sz : Nat) (post : Nat → St → Prop) : Array Value → State → Outcome → State → Prop := va_Qr (fun u : Nat × St => post u.1 u.2) (fun u a t => a = gad w u.1 ∧ gB w SL u.2 t) (gA w SL.length sz)
def gC (p : Program) (s : State) (m : MethodId) (args : Array Value) (meth : Method) (c : Code) (cc : ByteArray) (ret : Option FieldType) (nL : Nat) (own : String) (A : Nat → Prop) : Prop :=
  p.tables.exec = Jvm.exec ∧ c.code = cc ∧ meth.sig.returnType = ret ∧ c.maxLocals = nL ∧ s.vm.findClass own = some m.cls ∧ (∀ w ∈ wsL_law, w.before args s = true) ∧ meth.locks = false ∧ gNw s ∧ (∀ q, s.heap.size ≤ q → A q)
section GR
variable {p : Program} {l : Launch} {e : Env} {R : Room} {s : State} {m : MethodId} {args : Array Value} {below : List Frame} {meth : Method} {c : Code} {H : Heap} {locs : List Loc} {cells slots : Nat} {Q : State → Prop}
variable {cc : ByteArray} {pc nL : Nat} {ls : Array Slot} {rest : List Value} {A : Nat → Prop} {H0 : Heap} {w : GW} {SL : List Sh} {σ : St}
theorem g_met {y : MethodName} {ret : Option FieldType} {rm : Room} {sz : Nat} {Qc : Array Value → State → Outcome → State → Prop} (hy : plainName y.cls = true) (av : List Value) (hln : (lg_sl av).length ≤ nL)
    (body : ∀ (p : Program) (e : Env) (s : State) (m : MethodId) (below : List Frame) (meth : Method) (c : Code) (ls : Array Slot), s.heap.size = sz → gC p s m av.toArray meth c cc ret nL y.cls (gA w SL.length sz) → lv_has ls nL (lv_args 0 av) → gS w SL σ (gA w SL.length sz) s s.heap s.heap [] → W p l e rm s m av.toArray below meth c s.heap [] 0 0 (MQ below Qc av.toArray s 0 0 (gA w SL.length sz)) (F0 m 0 ls [])) :
    Met l y (Cond.code y cc nL ret :: wsL_law) rm (gPc w SL σ sz av) Qc 0 0 (gA w SL.length sz) := by
  refine Met.ofW (cc := cc) (maxL := nL) (ret := ret) hy rfl ?_
  intro p e s m args below meth c s₁ B hml hv
  obtain ⟨rfl, hsz, hP, hK, hD0, hN⟩ := hv
  have hts := atoms_spec (ws := Cond.code y cc nL ret :: wsL_law) B.pre
  have hown : s.vm.findClass y.cls = some m.cls := findClass_of_methodNamed B.named
  have hl := lv_entry av (n := nL) hln
  rw [lg_entry_eq]
  generalize (lg_sl av ++ List.replicate (nL - (lg_sl av).length) Slot.unset).toArray = ls at hl ⊢
  refine body p e s m below meth c ls hsz ⟨B.exec, B.bytes, B.returns, hml, hown, fun w hw => hts w (List.mem_cons_of_mem _ hw), B.notSynchronized, hN, fun q h => Or.inr (by rw [← hsz]; exact h)⟩ hl ⟨hK, hP, ⟨hD0.1, fun k q hk => ?_⟩, va_S.rf⟩
  obtain ⟨h1, h2⟩ := gW_ad hk
  exact Or.inl ⟨k, h1, h2⟩
theorem g_iadd (hexec : p.tables.exec = Jvm.exec) (hb : c.code = cc) {x y : Int} (hdg : decode cc pc = .ok (.iadd, 1)) (k : W p l e R s m args below meth c H locs cells slots Q (F0 m (pc + 1) ls (.int (iz (x + y)) :: rest))) : W p l e R s m args below meth c H locs cells slots Q (F0 m pc ls (.int (iz y) :: .int (iz x) :: rest)) :=
  lv_iadd hexec hb hdg (by rw [← Int32.ofInt_add]; exact k)
theorem g_isub (hexec : p.tables.exec = Jvm.exec) (hb : c.code = cc) {x y : Int} (hdg : decode cc pc = .ok (.isub, 1)) (k : W p l e R s m args below meth c H locs cells slots Q (F0 m (pc + 1) ls (.int (iz (x - y)) :: rest))) : W p l e R s m args below meth c H locs cells slots Q (F0 m pc ls (.int (iz y) :: .int (iz x) :: rest)) :=
  lv_isub hexec hb hdg (by rw [← Int32.ofInt_sub]; exact k)
theorem g_imul (hexec : p.tables.exec = Jvm.exec) (hb : c.code = cc) {x y : Int} (hdg : decode cc pc = .ok (.imul, 1)) (k : W p l e R s m args below meth c H locs cells slots Q (F0 m (pc + 1) ls (.int (iz (x * y)) :: rest))) : W p l e R s m args below meth c H locs cells slots Q (F0 m pc ls (.int (iz y) :: .int (iz x) :: rest)) :=
  lv_imul hexec hb hdg (by rw [← Int32.ofInt_mul]; exact k)
theorem g_irem (hexec : p.tables.exec = Jvm.exec) (hb : c.code = cc) {x y : Int} (h0 : 0 ≤ x) (h1 : x ≤ 2147483647) (h2 : 0 < y) (h3 : y ≤ 2147483647) (hdg : decode cc pc = .ok (.irem, 1)) (k : W p l e R s m args below meth c H locs cells slots Q (F0 m (pc + 1) ls (.int (iz (x % y)) :: rest))) : W p l e R s m args below meth c H locs cells slots Q (F0 m pc ls (.int (iz y) :: .int (iz x) :: rest)) :=
  lv_irem hexec hb hdg (fun h => by have := (iz_eq (a := y) (b := 0) ⟨by omega, by omega⟩ ⟨by decide, by decide⟩).mp h; omega) (by rw [iz_rem h0 h1 h2 h3]; exact k)
theorem g_iinc (hexec : p.tables.exec = Jvm.exec) (hb : c.code = cc) {i k : Nat} {n x : Int} {lv lv' : List (Nat × Value)} (hdg : decode cc pc = .ok (.iinc i n, 3)) (h : lv_has ls nL lv) (hk : lv[k]? = some (i, .int (iz x))) (hn : i < nL) (hl : (i, Value.int (iz (x + n))) :: lv.filter (fun q => !(q.1 == i) && !(q.1 + 1 == i && q.2.category == 2)) = lv') (kk : ∀ ls' : Array Slot, lv_has ls' nL lv' → W p l e R s m args below meth c H locs cells slots Q (F0 m (pc + 3) ls' rest)) : W p l e R s m args below meth c H locs cells slots Q (F0 m pc ls rest) :=
  lv_iinc hexec hb hdg h hk (v := iz (x + n)) (Int32.ofInt_add x n).symm hn hl kk
theorem g_i2l (hexec : p.tables.exec = Jvm.exec) (hb : c.code = cc) {x : Int} (h : inR x) (hdg : decode cc pc = .ok (.i2l, 1)) (k : W p l e R s m args below meth c H locs cells slots Q (F0 m (pc + 1) ls (.long (lz x) :: rest))) : W p l e R s m args below meth c H locs cells slots Q (F0 m pc ls (.int (iz x) :: rest)) :=
  lv_i2l hexec hb hdg (iz_l h) k
theorem g_ladd (hexec : p.tables.exec = Jvm.exec) (hb : c.code = cc) {x y : Int} (hdg : decode cc pc = .ok (.ladd, 1)) (k : W p l e R s m args below meth c H locs cells slots Q (F0 m (pc + 1) ls (.long (lz (x + y)) :: rest))) : W p l e R s m args below meth c H locs cells slots Q (F0 m pc ls (.long (lz y) :: .long (lz x) :: rest)) :=
  lv_ladd hexec hb hdg (by rw [← Int64.ofInt_add]; exact k)
theorem g_lmul (hexec : p.tables.exec = Jvm.exec) (hb : c.code = cc) {x y : Int} (hdg : decode cc pc = .ok (.lmul, 1)) (k : W p l e R s m args below meth c H locs cells slots Q (F0 m (pc + 1) ls (.long (lz (x * y)) :: rest))) : W p l e R s m args below meth c H locs cells slots Q (F0 m pc ls (.long (lz y) :: .long (lz x) :: rest)) :=
  lv_lmul hexec hb hdg (by rw [← Int64.ofInt_mul]; exact k)

theorem g_icmp_eq (hexec : p.tables.exec = Jvm.exec) (hb : c.code = cc) {x y : Int} {off : Int} {tgt : Nat} (hx : inR x) (hy : inR y) (hdg : decode cc pc = .ok (.if_icmp .eq off, 3)) (ht : (pc : Int) + off = (tgt : Int)) (kt : x = y → W p l e R s m args below meth c H locs cells slots Q (F0 m tgt ls rest)) (kf : ¬ (x = y) → W p l e R s m args below meth c H locs cells slots Q (F0 m (pc + 3) ls rest)) : W p l e R s m args below meth c H locs cells slots Q (F0 m pc ls (.int (iz y) :: .int (iz x) :: rest)) :=
  lv_icmp_eq hexec hb hdg ht (fun h => kt ((iz_eq hx hy).mp h)) (fun h => kf (fun q => h ((iz_eq hx hy).mpr q)))
theorem g_icmp_ne (hexec : p.tables.exec = Jvm.exec) (hb : c.code = cc) {x y : Int} {off : Int} {tgt : Nat} (hx : inR x) (hy : inR y) (hdg : decode cc pc = .ok (.if_icmp .ne off, 3)) (ht : (pc : Int) + off = (tgt : Int)) (kt : ¬ x = y → W p l e R s m args below meth c H locs cells slots Q (F0 m tgt ls rest)) (kf : x = y → W p l e R s m args below meth c H locs cells slots Q (F0 m (pc + 3) ls rest)) : W p l e R s m args below meth c H locs cells slots Q (F0 m pc ls (.int (iz y) :: .int (iz x) :: rest)) :=
  lv_icmp_ne hexec hb hdg ht (fun h => kt ((not_congr (iz_eq hx hy)).mp h)) (fun h => kf ((iz_eq hx hy).mp h))
theorem g_icmp_lt (hexec : p.tables.exec = Jvm.exec) (hb : c.code = cc) {x y : Int} {off : Int} {tgt : Nat} (hx : inR x) (hy : inR y) (hdg : decode cc pc = .ok (.if_icmp .lt off, 3)) (ht : (pc : Int) + off = (tgt : Int)) (kt : x < y → W p l e R s m args below meth c H locs cells slots Q (F0 m tgt ls rest)) (kf : ¬ (x < y) → W p l e R s m args below meth c H locs cells slots Q (F0 m (pc + 3) ls rest)) : W p l e R s m args below meth c H locs cells slots Q (F0 m pc ls (.int (iz y) :: .int (iz x) :: rest)) :=
  lv_icmp_lt hexec hb hdg ht (fun h => kt ((iz_lt hx hy).mp h)) (fun h => kf (fun q => h ((iz_lt hx hy).mpr q)))
theorem g_icmp_ge (hexec : p.tables.exec = Jvm.exec) (hb : c.code = cc) {x y : Int} {off : Int} {tgt : Nat} (hx : inR x) (hy : inR y) (hdg : decode cc pc = .ok (.if_icmp .ge off, 3)) (ht : (pc : Int) + off = (tgt : Int)) (kt : y ≤ x → W p l e R s m args below meth c H locs cells slots Q (F0 m tgt ls rest)) (kf : ¬ (y ≤ x) → W p l e R s m args below meth c H locs cells slots Q (F0 m (pc + 3) ls rest)) : W p l e R s m args below meth c H locs cells slots Q (F0 m pc ls (.int (iz y) :: .int (iz x) :: rest)) :=
  lv_icmp_ge hexec hb hdg ht (fun h => kt ((iz_le hy hx).mp h)) (fun h => kf (fun q => h ((iz_le hy hx).mpr q)))
theorem g_icmp_gt (hexec : p.tables.exec = Jvm.exec) (hb : c.code = cc) {x y : Int} {off : Int} {tgt : Nat} (hx : inR x) (hy : inR y) (hdg : decode cc pc = .ok (.if_icmp .gt off, 3)) (ht : (pc : Int) + off = (tgt : Int)) (kt : y < x → W p l e R s m args below meth c H locs cells slots Q (F0 m tgt ls rest)) (kf : ¬ (y < x) → W p l e R s m args below meth c H locs cells slots Q (F0 m (pc + 3) ls rest)) : W p l e R s m args below meth c H locs cells slots Q (F0 m pc ls (.int (iz y) :: .int (iz x) :: rest)) :=
  lv_icmp_gt hexec hb hdg ht (fun h => kt ((iz_lt hy hx).mp h)) (fun h => kf (fun q => h ((iz_lt hy hx).mpr q)))
theorem g_icmp_le (hexec : p.tables.exec = Jvm.exec) (hb : c.code = cc) {x y : Int} {off : Int} {tgt : Nat} (hx : inR x) (hy : inR y) (hdg : decode cc pc = .ok (.if_icmp .le off, 3)) (ht : (pc : Int) + off = (tgt : Int)) (kt : x ≤ y → W p l e R s m args below meth c H locs cells slots Q (F0 m tgt ls rest)) (kf : ¬ (x ≤ y) → W p l e R s m args below meth c H locs cells slots Q (F0 m (pc + 3) ls rest)) : W p l e R s m args below meth c H locs cells slots Q (F0 m pc ls (.int (iz y) :: .int (iz x) :: rest)) :=
  lv_icmp_le hexec hb hdg ht (fun h => kt ((iz_le hx hy).mp h)) (fun h => kf (fun q => h ((iz_le hx hy).mpr q)))
theorem g_if_eq (hexec : p.tables.exec = Jvm.exec) (hb : c.code = cc) {x : Int} {off : Int} {tgt : Nat} (hx : inR x) (hdg : decode cc pc = .ok (.ifCond .eq off, 3)) (ht : (pc : Int) + off = (tgt : Int)) (kt : x = 0 → W p l e R s m args below meth c H locs cells slots Q (F0 m tgt ls rest)) (kf : ¬ (x = 0) → W p l e R s m args below meth c H locs cells slots Q (F0 m (pc + 3) ls rest)) : W p l e R s m args below meth c H locs cells slots Q (F0 m pc ls (.int (iz x) :: rest)) := by
  have h0 : inR (0 : Int) := ⟨by decide, by decide⟩
  exact lv_if_eq hexec hb hdg ht (fun h => kt ((iz_eq hx h0).mp h)) (fun h => kf (fun q => h ((iz_eq hx h0).mpr q)))
theorem g_if_ne (hexec : p.tables.exec = Jvm.exec) (hb : c.code = cc) {x : Int} {off : Int} {tgt : Nat} (hx : inR x) (hdg : decode cc pc = .ok (.ifCond .ne off, 3)) (ht : (pc : Int) + off = (tgt : Int)) (kt : ¬ x = 0 → W p l e R s m args below meth c H locs cells slots Q (F0 m tgt ls rest)) (kf : x = 0 → W p l e R s m args below meth c H locs cells slots Q (F0 m (pc + 3) ls rest)) : W p l e R s m args below meth c H locs cells slots Q (F0 m pc ls (.int (iz x) :: rest)) := by
  have h0 : inR (0 : Int) := ⟨by decide, by decide⟩
  exact lv_if_ne hexec hb hdg ht (fun h => kt ((not_congr (iz_eq hx h0)).mp h)) (fun h => kf ((iz_eq hx h0).mp h))
theorem g_if_lt (hexec : p.tables.exec = Jvm.exec) (hb : c.code = cc) {x : Int} {off : Int} {tgt : Nat} (hx : inR x) (hdg : decode cc pc = .ok (.ifCond .lt off, 3)) (ht : (pc : Int) + off = (tgt : Int)) (kt : x < 0 → W p l e R s m args below meth c H locs cells slots Q (F0 m tgt ls rest)) (kf : ¬ (x < 0) → W p l e R s m args below meth c H locs cells slots Q (F0 m (pc + 3) ls rest)) : W p l e R s m args below meth c H locs cells slots Q (F0 m pc ls (.int (iz x) :: rest)) := by
  have h0 : inR (0 : Int) := ⟨by decide, by decide⟩
  exact lv_if_lt hexec hb hdg ht (fun h => kt ((iz_lt hx h0).mp h)) (fun h => kf (fun q => h ((iz_lt hx h0).mpr q)))
theorem g_if_ge (hexec : p.tables.exec = Jvm.exec) (hb : c.code = cc) {x : Int} {off : Int} {tgt : Nat} (hx : inR x) (hdg : decode cc pc = .ok (.ifCond .ge off, 3)) (ht : (pc : Int) + off = (tgt : Int)) (kt : 0 ≤ x → W p l e R s m args below meth c H locs cells slots Q (F0 m tgt ls rest)) (kf : ¬ (0 ≤ x) → W p l e R s m args below meth c H locs cells slots Q (F0 m (pc + 3) ls rest)) : W p l e R s m args below meth c H locs cells slots Q (F0 m pc ls (.int (iz x) :: rest)) := by
  have h0 : inR (0 : Int) := ⟨by decide, by decide⟩
  exact lv_if_ge hexec hb hdg ht (fun h => kt ((iz_le h0 hx).mp h)) (fun h => kf (fun q => h ((iz_le h0 hx).mpr q)))
theorem g_if_gt (hexec : p.tables.exec = Jvm.exec) (hb : c.code = cc) {x : Int} {off : Int} {tgt : Nat} (hx : inR x) (hdg : decode cc pc = .ok (.ifCond .gt off, 3)) (ht : (pc : Int) + off = (tgt : Int)) (kt : 0 < x → W p l e R s m args below meth c H locs cells slots Q (F0 m tgt ls rest)) (kf : ¬ (0 < x) → W p l e R s m args below meth c H locs cells slots Q (F0 m (pc + 3) ls rest)) : W p l e R s m args below meth c H locs cells slots Q (F0 m pc ls (.int (iz x) :: rest)) := by
  have h0 : inR (0 : Int) := ⟨by decide, by decide⟩
  exact lv_if_gt hexec hb hdg ht (fun h => kt ((iz_lt h0 hx).mp h)) (fun h => kf (fun q => h ((iz_lt h0 hx).mpr q)))
theorem g_if_le (hexec : p.tables.exec = Jvm.exec) (hb : c.code = cc) {x : Int} {off : Int} {tgt : Nat} (hx : inR x) (hdg : decode cc pc = .ok (.ifCond .le off, 3)) (ht : (pc : Int) + off = (tgt : Int)) (kt : x ≤ 0 → W p l e R s m args below meth c H locs cells slots Q (F0 m tgt ls rest)) (kf : ¬ (x ≤ 0) → W p l e R s m args below meth c H locs cells slots Q (F0 m (pc + 3) ls rest)) : W p l e R s m args below meth c H locs cells slots Q (F0 m pc ls (.int (iz x) :: rest)) := by
  have h0 : inR (0 : Int) := ⟨by decide, by decide⟩
  exact lv_if_le hexec hb hdg ht (fun h => kt ((iz_le hx h0).mp h)) (fun h => kf (fun q => h ((iz_le hx h0).mpr q)))
theorem gG_int {C : String} {T : u_T} {N ci : Nat} {cs : List Nat} {k j : Nat} (hsh : SL[k]? = some (1, ci, cs)) (hj : cs[j]? = some 0) : (gF w (σ k) 0 cs)[j]? = some (.int (iz (σ k j))) := by
  rw [gF_at, hj]
  simp [gV]
theorem g_getI (hexec : p.tables.exec = Jvm.exec) (hb : c.code = cc) (hts : ∀ w ∈ wsL_law, w.before args s = true) {own C : String} (hown : s.vm.findClass own = some m.cls) {T : u_T} {N ci index : Nat} {cs : List Nat} {k : Nat} (j : Nat) (hin : ∀ w ∈ u_ws C T N, w ∈ wsL_law) (G : gS w SL σ A s H0 H locs) (hsh : SL[k]? = some (1, ci, cs)) (hc : vwCl[ci]? = some (C, T, N)) (hk : j < N) (hj : cs[j]? = some 0) (hlink : Cond.fieldLink own index (T j).1 (T j).2.1 (T j).2.2.1 ∈ wsL_law) (hdg : decode cc pc = .ok (.getfield index, 3))
    (kk : W p l e R s m args below meth c H locs cells slots Q (F0 m (pc + 3) ls (.int (iz (σ k j)) :: rest))) : W p l e R s m args below meth c H locs cells slots Q (F0 m pc ls (.ref (gad w k) :: rest)) :=
  va_get hexec hb hts hin hown G.1 G.2.1 k (gW_at hsh) hc j hk (hts _ hlink) (fun _ h => h) (show (gF w (σ k) 0 cs)[j]? = some (.int (iz (σ k j))) by rw [gF_at, hj]; simp [gV]) hdg kk
theorem g_getL (hexec : p.tables.exec = Jvm.exec) (hb : c.code = cc) (hts : ∀ w ∈ wsL_law, w.before args s = true) {own C : String} (hown : s.vm.findClass own = some m.cls) {T : u_T} {N ci index : Nat} {cs : List Nat} {k : Nat} (j : Nat) (hin : ∀ w ∈ u_ws C T N, w ∈ wsL_law) (G : gS w SL σ A s H0 H locs) (hsh : SL[k]? = some (1, ci, cs)) (hc : vwCl[ci]? = some (C, T, N)) (hk : j < N) (hj : cs[j]? = some 1) (hlink : Cond.fieldLink own index (T j).1 (T j).2.1 (T j).2.2.1 ∈ wsL_law) (hdg : decode cc pc = .ok (.getfield index, 3))
    (kk : W p l e R s m args below meth c H locs cells slots Q (F0 m (pc + 3) ls (.long (lz (σ k j)) :: rest))) : W p l e R s m args below meth c H locs cells slots Q (F0 m pc ls (.ref (gad w k) :: rest)) :=
  va_get hexec hb hts hin hown G.1 G.2.1 k (gW_at hsh) hc j hk (hts _ hlink) (fun _ h => h) (show (gF w (σ k) 0 cs)[j]? = some (.long (lz (σ k j))) by rw [gF_at, hj]; simp [gV]) hdg kk
theorem g_getR (hexec : p.tables.exec = Jvm.exec) (hb : c.code = cc) (hts : ∀ w ∈ wsL_law, w.before args s = true) {own C : String} (hown : s.vm.findClass own = some m.cls) {T : u_T} {N ci index : Nat} {cs : List Nat} {k : Nat} (j r : Nat) (hin : ∀ w ∈ u_ws C T N, w ∈ wsL_law) (G : gS w SL σ A s H0 H locs) (hsh : SL[k]? = some (1, ci, cs)) (hc : vwCl[ci]? = some (C, T, N)) (hk : j < N) (hj : cs[j]? = some (r + 3)) (hlink : Cond.fieldLink own index (T j).1 (T j).2.1 (T j).2.2.1 ∈ wsL_law) (hdg : decode cc pc = .ok (.getfield index, 3))
    (kk : W p l e R s m args below meth c H locs cells slots Q (F0 m (pc + 3) ls (.ref (gad w r) :: rest))) : W p l e R s m args below meth c H locs cells slots Q (F0 m pc ls (.ref (gad w k) :: rest)) :=
  va_get hexec hb hts hin hown G.1 G.2.1 k (gW_at hsh) hc j hk (hts _ hlink) (fun _ h => h) (show (gF w (σ k) 0 cs)[j]? = some (.ref (gad w r)) by rw [gF_at, hj]; simp [gV]) hdg kk
theorem gS.upd (G : gS w SL σ A s H0 H locs) {k : Nat} {sh : Sh} {f : Int → Int} {e : va_E} {H1 : Heap} {locs1 : List Loc} (hsh : SL[k]? = some sh) (he : e = gE w f sh) (hP : va_P w.1 vwCl ((gW w SL σ).set k (gad w k, e)) H1) (hS : va_S A H0 H1 locs1) : gS w SL (ur σ k f) A s H0 H1 locs1 :=
  ⟨G.1, by rw [gW_set hsh f e he] at hP; exact hP, gD_eq G.2.2.1, hS⟩
theorem g_putI (hexec : p.tables.exec = Jvm.exec) (hb : c.code = cc) (hts : ∀ w ∈ wsL_law, w.before args s = true) {own C : String} (hown : s.vm.findClass own = some m.cls) {T : u_T} {N ci index : Nat} {cs : List Nat} {k : Nat} (j : Nat) (hin : ∀ w ∈ u_ws C T N, w ∈ wsL_law) (ty0 : Nat → FieldType) (hty : ∀ k, k < N → parseFieldDescriptor (T k).2.2.1 = some (ty0 k)) (hnm : ∀ a, a < N → ∀ b, b < N → a ≠ b → (T a).2.1 ≠ (T b).2.1) (G : gS w SL σ A s H0 H locs) (hsh : SL[k]? = some (1, ci, cs)) (hc : vwCl[ci]? = some (C, T, N)) (hk : j < N) (hj : cs[j]? = some 0) (hlink : Cond.fieldLink own index (T j).1 (T j).2.1 (T j).2.2.1 ∈ wsL_law) (hfin : (T j).2.2.2 = false) {x : Int} (hn : narrow (ty0 j) (.int (iz x)) = .int (iz x)) (hfit : fits (ty0 j) (.int (iz x)) = true) (hdg : decode cc pc = .ok (.putfield index, 3))
    (kk : ∀ (σ1 : St), σ1 = up σ k j x → ∀ (H1 : Heap) (locs1 : List Loc), gS w SL σ1 A s H0 H1 locs1 → W p l e R s m args below meth c H1 locs1 cells slots Q (F0 m (pc + 3) ls rest)) : W p l e R s m args below meth c H locs cells slots Q (F0 m pc ls (.int (iz x) :: .ref (gad w k) :: rest)) :=
  va_put hexec hb hts hin ty0 hty hnm hown G.1 G.2.1 G.2.2.1 G.2.2.2 k (gW_at hsh) hc j hk (hts _ hlink) (fun _ h => h) hfin (hty j hk) hn hfit (by rw [gF_len]; exact (List.getElem?_eq_some_iff.mp hj).1) hdg (fun H1 locs1 hP hD hS => kk _ rfl H1 locs1 (G.upd hsh (by
    show Sum.inr (ci, (gF w (σ k) 0 cs).set j (.int (iz x))) = Sum.inr (ci, gF w (ui (σ k) j x) 0 cs)
    rw [gF_set w (σ k) cs j x _ 0 hj (by simp [gV, ui_s])]) hP hS))
theorem g_putL (hexec : p.tables.exec = Jvm.exec) (hb : c.code = cc) (hts : ∀ w ∈ wsL_law, w.before args s = true) {own C : String} (hown : s.vm.findClass own = some m.cls) {T : u_T} {N ci index : Nat} {cs : List Nat} {k : Nat} (j : Nat) (hin : ∀ w ∈ u_ws C T N, w ∈ wsL_law) (ty0 : Nat → FieldType) (hty : ∀ k, k < N → parseFieldDescriptor (T k).2.2.1 = some (ty0 k)) (hnm : ∀ a, a < N → ∀ b, b < N → a ≠ b → (T a).2.1 ≠ (T b).2.1) (G : gS w SL σ A s H0 H locs) (hsh : SL[k]? = some (1, ci, cs)) (hc : vwCl[ci]? = some (C, T, N)) (hk : j < N) (hj : cs[j]? = some 1) (hlink : Cond.fieldLink own index (T j).1 (T j).2.1 (T j).2.2.1 ∈ wsL_law) (hfin : (T j).2.2.2 = false) {x : Int} (hn : narrow (ty0 j) (.long (lz x)) = .long (lz x)) (hfit : fits (ty0 j) (.long (lz x)) = true) (hdg : decode cc pc = .ok (.putfield index, 3))
    (kk : ∀ (σ1 : St), σ1 = up σ k j x → ∀ (H1 : Heap) (locs1 : List Loc), gS w SL σ1 A s H0 H1 locs1 → W p l e R s m args below meth c H1 locs1 cells slots Q (F0 m (pc + 3) ls rest)) : W p l e R s m args below meth c H locs cells slots Q (F0 m pc ls (.long (lz x) :: .ref (gad w k) :: rest)) :=
  va_put hexec hb hts hin ty0 hty hnm hown G.1 G.2.1 G.2.2.1 G.2.2.2 k (gW_at hsh) hc j hk (hts _ hlink) (fun _ h => h) hfin (hty j hk) hn hfit (by rw [gF_len]; exact (List.getElem?_eq_some_iff.mp hj).1) hdg (fun H1 locs1 hP hD hS => kk _ rfl H1 locs1 (G.upd hsh (by
    show Sum.inr (ci, (gF w (σ k) 0 cs).set j (.long (lz x))) = Sum.inr (ci, gF w (ui (σ k) j x) 0 cs)
    rw [gF_set w (σ k) cs j x _ 1 hj (by simp [gV, ui_s])]) hP hS))
theorem g_alen (hexec : p.tables.exec = Jvm.exec) (hb : c.code = cc) (G : gS w SL σ A s H0 H locs) {k n : Nat} {cs : List Nat} (hsh : SL[k]? = some (0, n, cs)) (hdg : decode cc pc = .ok (.arraylength, 1)) (kk : W p l e R s m args below meth c H locs cells slots Q (F0 m (pc + 1) ls (.int (iz (n : Int)) :: rest))) : W p l e R s m args below meth c H locs cells slots Q (F0 m pc ls (.ref (gad w k) :: rest)) :=
  va_alen hexec hb G.1 G.2.1 k 0 (gW_at hsh) rfl Int32.ofInt_eq_ofNat.symm hdg kk
theorem g_alenR (hexec : p.tables.exec = Jvm.exec) (hb : c.code = cc) (G : gS w SL σ A s H0 H locs) {k n : Nat} {cs : List Nat} (hsh : SL[k]? = some (2, n, cs)) (hdg : decode cc pc = .ok (.arraylength, 1)) (kk : W p l e R s m args below meth c H locs cells slots Q (F0 m (pc + 1) ls (.int (iz (n : Int)) :: rest))) : W p l e R s m args below meth c H locs cells slots Q (F0 m pc ls (.ref (gad w k) :: rest)) :=
  va_alen hexec hb G.1 G.2.1 k 1 (gW_at hsh) rfl Int32.ofInt_eq_ofNat.symm hdg kk
theorem g_ald (hexec : p.tables.exec = Jvm.exec) (hb : c.code = cc) (G : gS w SL σ A s H0 H locs) {k n : Nat} {cs : List Nat} (hsh : SL[k]? = some (0, n, cs)) {i : Int} (h0 : 0 ≤ i) (h1 : i < (n : Int)) (hn : n < 2147483648) (hdg : decode cc pc = .ok (.iaload, 1)) (kk : W p l e R s m args below meth c H locs cells slots Q (F0 m (pc + 1) ls (.int (iz (σ k i)) :: rest))) : W p l e R s m args below meth c H locs cells slots Q (F0 m pc ls (.int (iz i) :: .ref (gad w k) :: rest)) :=
  va_iald hexec hb G.1 G.2.1 k 0 (gW_at hsh) rfl (iz_in h0 h1 hn) hdg (by
    show W p l e R s m args below meth c H locs cells slots Q (F0 m (pc + 1) ls (.int (iz (σ k (((iz i).toNatClampNeg : Nat) : Int))) :: rest))
    rw [iz_cl h0 (by omega), Int.toNat_of_nonneg h0]
    exact kk)
theorem g_ast (hexec : p.tables.exec = Jvm.exec) (hb : c.code = cc) (G : gS w SL σ A s H0 H locs) {k n : Nat} {cs : List Nat} (hsh : SL[k]? = some (0, n, cs)) {i x : Int} (h0 : 0 ≤ i) (h1 : i < (n : Int)) (hn : n < 2147483648) (hdg : decode cc pc = .ok (.iastore, 1))
    (kk : ∀ (σ1 : St), σ1 = up σ k i x → ∀ (H1 : Heap) (locs1 : List Loc), gS w SL σ1 A s H0 H1 locs1 → W p l e R s m args below meth c H1 locs1 cells slots Q (F0 m (pc + 1) ls rest)) : W p l e R s m args below meth c H locs cells slots Q (F0 m pc ls (.int (iz x) :: .int (iz i) :: .ref (gad w k) :: rest)) :=
  va_iast hexec hb G.1 G.2.1 G.2.2.1 G.2.2.2 k 0 (gW_at hsh) rfl (iz_in h0 h1 hn) hdg (fun H1 locs1 hP hD hS => kk _ rfl H1 locs1 (G.upd hsh (by
    show Sum.inl (w.2.1, n, Sum.inl (upd (fun j : Nat => iz (σ k (j : Int))) (iz i).toNatClampNeg (iz x))) = Sum.inl (w.2.1, n, Sum.inl (fun j : Nat => iz (ui (σ k) i x (j : Int))))
    refine congrArg (fun z : Nat → Int32 => (Sum.inl (w.2.1, n, Sum.inl z) : va_E)) (funext fun j => ?_)
    unfold upd ui
    rw [iz_cl h0 (by omega)]
    by_cases hj : j = i.toNat
    · rw [if_pos hj, if_pos (by omega)]
    · rw [if_neg hj, if_neg (by omega)]) hP hS))
theorem g_iret (hexec : p.tables.exec = Jvm.exec) (hb : c.code = cc) (hr : meth.sig.returnType = some .int) (hlk : meth.locks = false) {sz : Nat} (hz : s.heap.size = sz) (G : gS w SL σ (gA w SL.length sz) s s.heap H locs) {post : Int → St → Prop} {x : Int} (hq : post x σ) (hdg : decode cc pc = .ok (.ireturn, 1)) : W p l e R s m args below meth c H locs cells slots (MQ below (gQi w SL sz post) args s cells slots (gA w SL.length sz)) (F0 m pc ls [.int (iz x)]) :=
  W.iret hexec hb hr (fun t ht hW => ⟨⟨iz x, (x, σ), rfl, ⟨rfl, hq⟩, by show va_P _ _ _ t.heap; rw [ht]; exact G.2.1⟩, G.2.2.2.F ht⟩) G.2.2.2.2.2 hdg hlk
theorem g_zret (hexec : p.tables.exec = Jvm.exec) (hb : c.code = cc) (hr : meth.sig.returnType = some .boolean) (hlk : meth.locks = false) {sz : Nat} (hz : s.heap.size = sz) (G : gS w SL σ (gA w SL.length sz) s s.heap H locs) {post : Int → St → Prop} {x : Int} (hx : x = 0 ∨ x = 1) (hq : post x σ) (hdg : decode cc pc = .ok (.ireturn, 1)) : W p l e R s m args below meth c H locs cells slots (MQ below (gQi w SL sz post) args s cells slots (gA w SL.length sz)) (F0 m pc ls [.int (iz x)]) :=
  W.zret hexec hb hr (by rcases hx with rfl | rfl <;> rfl) (fun t ht hW => ⟨⟨iz x, (x, σ), rfl, ⟨rfl, hq⟩, by show va_P _ _ _ t.heap; rw [ht]; exact G.2.1⟩, G.2.2.2.F ht⟩) G.2.2.2.2.2 hdg hlk
theorem g_lret (hexec : p.tables.exec = Jvm.exec) (hb : c.code = cc) (hr : meth.sig.returnType = some .long) (hlk : meth.locks = false) {sz : Nat} (hz : s.heap.size = sz) (G : gS w SL σ (gA w SL.length sz) s s.heap H locs) {post : Int → St → Prop} {x : Int} (hq : post x σ) (hdg : decode cc pc = .ok (.lreturn, 1)) : W p l e R s m args below meth c H locs cells slots (MQ below (gQl w SL sz post) args s cells slots (gA w SL.length sz)) (F0 m pc ls [.long (lz x)]) :=
  W.lret hexec hb hr (fun t ht hW => ⟨⟨lz x, (x, σ), rfl, ⟨rfl, hq⟩, by show va_P _ _ _ t.heap; rw [ht]; exact G.2.1⟩, G.2.2.2.F ht⟩) G.2.2.2.2.2 hdg hlk
theorem g_vret (hexec : p.tables.exec = Jvm.exec) (hb : c.code = cc) (hr : meth.sig.returnType = none) (hlk : meth.locks = false) {sz : Nat} (hz : s.heap.size = sz) (G : gS w SL σ (gA w SL.length sz) s s.heap H locs) {post : St → Prop} (hq : post σ) (hdg : decode cc pc = .ok (.return_, 1)) : W p l e R s m args below meth c H locs cells slots (MQ below (gQv w SL sz post) args s cells slots (gA w SL.length sz)) (F0 m pc ls []) :=
  W.vret hexec hb hr (fun t ht hW => ⟨⟨σ, rfl, hq, by show va_P _ _ _ t.heap; rw [ht]; exact G.2.1⟩, G.2.2.2.F ht⟩) G.2.2.2.2.2 hdg hlk
theorem g_rret (hexec : p.tables.exec = Jvm.exec) (hb : c.code = cc) {rt : FieldType} (hr : meth.sig.returnType = some rt) (hrt : ∃ n, rt = .object n) (hlk : meth.locks = false) {sz : Nat} (hz : s.heap.size = sz) (G : gS w SL σ (gA w SL.length sz) s s.heap H locs) {post : Nat → St → Prop} {k : Nat} (hq : post k σ) (hdg : decode cc pc = .ok (.areturn, 1)) : W p l e R s m args below meth c H locs cells slots (MQ below (gQr w SL sz post) args s cells slots (gA w SL.length sz)) (F0 m pc ls [.ref (gad w k)]) :=
  W.aret hexec hb hr (Or.inl hrt) (Or.inr ⟨_, rfl⟩) (fun t ht hW => ⟨⟨(k, σ), gad w k, rfl, hq, rfl, by show va_P _ _ _ t.heap; rw [ht]; exact G.2.1⟩, G.2.2.2.F ht⟩) G.2.2.2.2.2 hdg hlk
theorem g_aald (hexec : p.tables.exec = Jvm.exec) (hb : c.code = cc) (G : gS w SL σ A s H0 H locs) {k n : Nat} {cs : List Nat} (hsh : SL[k]? = some (2, n, cs)) {i : Int} (h0 : 0 ≤ i) (h1 : i < (n : Int)) (hn : n < 2147483648) (hdg : decode cc pc = .ok (.aaload, 1)) (r : Nat) (hr : cs.getD i.toNat 2 = r + 3) (kk : W p l e R s m args below meth c H locs cells slots Q (F0 m (pc + 1) ls (.ref (gad w r) :: rest))) : W p l e R s m args below meth c H locs cells slots Q (F0 m pc ls (.int (iz i) :: .ref (gad w k) :: rest)) :=
  va_aldq hexec hb G.1 G.2.1 k 1 (gW_at hsh) rfl (iz_in h0 h1 hn) hdg (by
    show W p l e R s m args below meth c H locs cells slots Q (F0 m (pc + 1) ls (va_rf (gO w (cs.getD (iz i).toNatClampNeg 2)) :: rest))
    rw [iz_cl h0 (by omega), hr]
    exact kk)
theorem g_min (hexec : p.tables.exec = Jvm.exec) (hb : c.code = cc) (hml : c.maxLocals = ls.size) (hts : ∀ w ∈ wsL_law, w.before args s = true) {own : String} {index : Nat} (hown : s.vm.findClass own = some m.cls) (hlink : Cond.methodLink own index Lib.Math.min.name ∈ wsL_law) (hstat : Cond.static Lib.Math.min.name ∈ wsL_law) (hini : Cond.initialized "java/lang/Math" ∈ wsL_law) (hcode : Cond.code Lib.Math.min.name Lib.Math.min.code 2 (some .int) ∈ wsL_law)
    (hframes : 1 ≤ R.frames) (hlocals : (rest.map fun v => v.category).sum + 13 ≤ R.locals) (hc : cells ≤ R.cells) (hs : slots ≤ R.slots) {x y : Int} (hx : inR x) (hy : inR y) (hdg : decode cc pc = .ok (.invokestatic index, 3)) (kk : ∀ r : Int, r = min x y → W p l e R s m args below meth c H locs cells slots Q (F0 m (pc + 3) ls (.int (iz r) :: rest))) : W p l e R s m args below meth c H locs cells slots Q (F0 m pc ls (.int (iz y) :: .int (iz x) :: rest)) :=
  va_mmin hexec hb hml hown (hts _ hlink) (hts _ hstat) (hts _ hini) (hts _ hcode) hframes hlocals hc hs hdg (by
    have h := kk (min x y) rfl
    by_cases q : y < x
    · rw [if_pos ((iz_lt hy hx).mpr q)]
      rw [show min x y = y by omega] at h
      exact h
    · rw [if_neg (fun z => q ((iz_lt hy hx).mp z))]
      rw [show min x y = x by omega] at h
      exact h)
theorem g_max (hexec : p.tables.exec = Jvm.exec) (hb : c.code = cc) (hml : c.maxLocals = ls.size) (hts : ∀ w ∈ wsL_law, w.before args s = true) {own : String} {index : Nat} (hown : s.vm.findClass own = some m.cls) (hlink : Cond.methodLink own index Lib.Math.max.name ∈ wsL_law) (hstat : Cond.static Lib.Math.max.name ∈ wsL_law) (hini : Cond.initialized "java/lang/Math" ∈ wsL_law) (hcode : Cond.code Lib.Math.max.name Lib.Math.max.code 2 (some .int) ∈ wsL_law)
    (hframes : 1 ≤ R.frames) (hlocals : (rest.map fun v => v.category).sum + 13 ≤ R.locals) (hc : cells ≤ R.cells) (hs : slots ≤ R.slots) {x y : Int} (hx : inR x) (hy : inR y) (hdg : decode cc pc = .ok (.invokestatic index, 3)) (kk : ∀ r : Int, r = max x y → W p l e R s m args below meth c H locs cells slots Q (F0 m (pc + 3) ls (.int (iz r) :: rest))) : W p l e R s m args below meth c H locs cells slots Q (F0 m pc ls (.int (iz y) :: .int (iz x) :: rest)) :=
  va_mmax hexec hb hml hown (hts _ hlink) (hts _ hstat) (hts _ hini) (hts _ hcode) hframes hlocals hc hs hdg (by
    have h := kk (max x y) rfl
    by_cases q : x < y
    · rw [if_pos ((iz_lt hx hy).mpr q)]
      rw [show max x y = y by omega] at h
      exact h
    · rw [if_neg (fun z => q ((iz_lt hx hy).mp z))]
      rw [show max x y = x by omega] at h
      exact h)
end GR
-- calls
theorem gGood {own C : String} {idx nL : Nat} {y : MethodName} {cc : ByteArray} {ret : Option FieldType} (h1 : Cond.methodLink own idx y ∈ wsL_law) (h2 : Cond.instanceMethod y ∈ wsL_law) (h3 : Cond.selects C y y ∈ wsL_law) (h4 : Cond.initialized C ∈ wsL_law) (h5 : Cond.code y cc nL ret ∈ wsL_law) : GoodIn wsL_law (wsV own idx C y (Cond.code y cc nL ret :: wsL_law)) := by
  have all : ∀ w ∈ wsL_law, (w.onTables && w.keeps) = true ∨ ∃ ty, w = .arrayClass ty := fun w h => good_of_word (List.all_eq_true.mp gWAll w h)
  intro w hw
  have hm : w ∈ wsL_law := by
    unfold wsV at hw
    simp only [List.cons_append, List.nil_append, List.mem_cons] at hw
    rcases hw with rfl | rfl | rfl | rfl | rfl | hw <;> assumption
  exact ⟨hm, all w hm⟩
theorem gGoodS {own : String} {idx nL : Nat} {y : MethodName} {cc : ByteArray} {ret : Option FieldType} (h1 : Cond.methodLink own idx y ∈ wsL_law) (h2 : Cond.static y ∈ wsL_law) (h4 : Cond.initialized y.cls ∈ wsL_law) (h5 : Cond.code y cc nL ret ∈ wsL_law) : GoodIn wsL_law (va_wsS own idx y (Cond.code y cc nL ret :: wsL_law)) := by
  have all : ∀ w ∈ wsL_law, (w.onTables && w.keeps) = true ∨ ∃ ty, w = .arrayClass ty := fun w h => good_of_word (List.all_eq_true.mp gWAll w h)
  intro w hw
  have hm : w ∈ wsL_law := by
    unfold va_wsS at hw
    simp only [List.cons_append, List.nil_append, List.mem_cons] at hw
    rcases hw with rfl | rfl | rfl | rfl | hw <;> assumption
  exact ⟨hm, all w hm⟩
theorem gGoodC {nL : Nat} {y : MethodName} {cc : ByteArray} {ret : Option FieldType} (h5 : Cond.code y cc nL ret ∈ wsL_law) : GoodIn wsL_law (Cond.code y cc nL ret :: wsL_law) := by
  have all : ∀ w ∈ wsL_law, (w.onTables && w.keeps) = true ∨ ∃ ty, w = .arrayClass ty := fun w h => good_of_word (List.all_eq_true.mp gWAll w h)
  intro w hw
  have hm : w ∈ wsL_law := by
    rcases List.mem_cons.mp hw with rfl | hw <;> assumption
  exact ⟨hm, all w hm⟩
section GCALL
variable {p : Program} {l : Launch} {e : Env} {R : Room} {s : State} {m : MethodId} {args : Array Value} {below : List Frame} {meth : Method} {c : Code} {H : Heap} {locs : List Loc} {cells slots : Nat} {Q : State → Prop}
variable {cc : ByteArray} {pc nL : Nat} {ls : Array Slot} {rest st : List Value} {A : Nat → Prop} {H0 : Heap} {w : GW} {SL : List Sh} {σ : St}
theorem gPc_blind {sz : Nat} {av : List Value} : FrameBlind (gPc w SL σ sz av) := fun a U g mk q => by
  obtain ⟨q0, q1, qP, qK, qD, qN⟩ := q
  exact ⟨q0, q1, qP, va_K.moved (u := U) (U := U.calling g mk a) (Vm.Alike.refl U.vm) qK, qD, gNw.same rfl qN⟩
theorem gPc_at {av : List Value} (G : gS w SL σ A s H0 H locs) (hN : gNw s) : ∀ U : State, U.heap = H → s.WarmedH U.vm → gPc w SL σ H.size av av.toArray U := fun U hU hW =>
  ⟨rfl, by rw [hU], by rw [hU]; exact G.2.1, va_K.moved hW.alike G.1, G.2.2.1.weaken (fun _ _ _ _ => trivial), hN.warm hW⟩
theorem gPreV {k ci N : Nat} {cs : List Nat} {C : String} {T : u_T} {As : List Value} (G : gS w SL σ A s H0 H locs) (hN : gNw s) (hsh : SL[k]? = some (1, ci, cs)) (hc : vwCl[ci]? = some (C, T, N)) : PreV s H C (gad w k) (gPc w SL σ H.size (.ref (gad w k) :: As)) As :=
  ⟨gPc_blind, va_recv (q := (C, T, N)) G.1 G.2.1 hc (q0 := k) (gW_at hsh), gPc_at G hN⟩
theorem gPreS {As : List Value} (G : gS w SL σ A s H0 H locs) (hN : gNw s) : PreS s H (gPc w SL σ H.size As) As := ⟨gPc_blind, gPc_at G hN⟩
theorem gBack (G : gS w SL σ A s H0 H locs) {σ1 : St} {t : State} {H1 : Heap} {locs1 : List Loc} (ht : t.heap = H1) (hB : gB w SL σ1 t) (hS : va_S A H0 H1 locs1) : gS w SL σ1 A s H0 H1 locs1 :=
  ⟨G.1, by rw [← ht]; exact hB, gD_eq G.2.2.1, hS⟩
theorem gIn (G : gS w SL σ A s H0 H locs) (hA : ∀ q, H0.size ≤ q → A q) : ∀ q, gA w SL.length H.size q → A q := gA_of G.2.2.1 G.2.2.2 hA
theorem g_doneI {n : Nat} {own : String} {a : Array Value} {post : Int → St → Prop} (G : gS w SL σ A s H0 H locs) (hA : ∀ q, H0.size ≤ q → A q) (hr : va_Run p l e R s m args below meth c H locs cells slots 0 0 (F0 m pc ls st) rest (gQi w SL H.size post a) (gA w SL.length H.size)) (kk : ∀ (r : Int) (σ1 : St) (H1 : Heap) (locs1 : List Loc), post r σ1 → gS w SL σ1 A s H0 H1 locs1 → W p l e R s m args below meth c H1 locs1 cells slots Q (F0 m (pc + 3) ls (.int (iz r) :: rest))) : W p l e R s m args below meth c H locs cells slots Q (F0 m pc ls st) :=
  va_calli hr G.2.2.2 (fun q _ h => gIn G hA q h) (gIn G hA) (fun r u t H1 locs1 ht hvm hw hB hz1 hk1 hS => by
    obtain ⟨h1, h2⟩ := hw
    subst h1
    exact kk u.1 u.2 H1 locs1 h2 (gBack G ht hB hS))
theorem g_doneL {n : Nat} {own : String} {a : Array Value} {post : Int → St → Prop} (G : gS w SL σ A s H0 H locs) (hA : ∀ q, H0.size ≤ q → A q) (hr : va_Run p l e R s m args below meth c H locs cells slots 0 0 (F0 m pc ls st) rest (gQl w SL H.size post a) (gA w SL.length H.size)) (kk : ∀ (r : Int) (σ1 : St) (H1 : Heap) (locs1 : List Loc), post r σ1 → gS w SL σ1 A s H0 H1 locs1 → W p l e R s m args below meth c H1 locs1 cells slots Q (F0 m (pc + 3) ls (.long (lz r) :: rest))) : W p l e R s m args below meth c H locs cells slots Q (F0 m pc ls st) :=
  va_calll hr G.2.2.2 (fun q _ h => gIn G hA q h) (gIn G hA) (fun r u t H1 locs1 ht hvm hw hB hz1 hk1 hS => by
    obtain ⟨h1, h2⟩ := hw
    subst h1
    exact kk u.1 u.2 H1 locs1 h2 (gBack G ht hB hS))
theorem g_doneV {n : Nat} {own : String} {a : Array Value} {post : St → Prop} (G : gS w SL σ A s H0 H locs) (hA : ∀ q, H0.size ≤ q → A q) (hr : va_Run p l e R s m args below meth c H locs cells slots 0 0 (F0 m pc ls st) rest (gQv w SL H.size post a) (gA w SL.length H.size)) (kk : ∀ (σ1 : St) (H1 : Heap) (locs1 : List Loc), post σ1 → gS w SL σ1 A s H0 H1 locs1 → W p l e R s m args below meth c H1 locs1 cells slots Q (F0 m (pc + 3) ls rest)) : W p l e R s m args below meth c H locs cells slots Q (F0 m pc ls st) :=
  va_callv hr G.2.2.2 (fun q _ h => gIn G hA q h) (gIn G hA) (fun u t H1 locs1 ht hvm hw hB hz1 hk1 hS => kk u H1 locs1 hw (gBack G ht hB hS))
theorem g_doneR {n : Nat} {own : String} {a : Array Value} {post : Nat → St → Prop} (G : gS w SL σ A s H0 H locs) (hA : ∀ q, H0.size ≤ q → A q) (hr : va_Run p l e R s m args below meth c H locs cells slots 0 0 (F0 m pc ls st) rest (gQr w SL H.size post a) (gA w SL.length H.size)) (kk : ∀ (r : Nat) (σ1 : St) (H1 : Heap) (locs1 : List Loc), post r σ1 → gS w SL σ1 A s H0 H1 locs1 → W p l e R s m args below meth c H1 locs1 cells slots Q (F0 m (pc + 3) ls (.ref (gad w r) :: rest))) : W p l e R s m args below meth c H locs cells slots Q (F0 m pc ls st) :=
  va_callr hr G.2.2.2 (fun q _ h => gIn G hA q h) (gIn G hA) (fun u a t H1 locs1 ht hvm hw hB hz1 hk1 hS => by
    obtain ⟨h1, h2⟩ := hB
    subst h1
    exact kk u.1 u.2 H1 locs1 hw (gBack G ht h2 hS))
theorem g_callVi (hexec : p.tables.exec = Jvm.exec) (hb : c.code = cc) (hml : c.maxLocals = nL) (hts : ∀ w ∈ wsL_law, w.before args s = true) {own : String} (hown : s.vm.findClass own = some m.cls) (hN : gNw s) (hA : ∀ q, H0.size ≤ q → A q) (G : gS w SL σ A s H0 H locs) {y : MethodName} {bytes : ByteArray} {maxL n index : Nat} {ret : Option FieldType} {rm : Room} (As : List Value) {post : Int → St → Prop} {k ci N : Nat} {cs : List Nat} {C : String} {T : u_T} (hM : Met l y (Cond.code y bytes maxL ret :: wsL_law) rm (gPc w SL σ H.size (.ref (gad w k) :: As)) (gQi w SL H.size post) 0 0 (gA w SL.length H.size)) (hsh : SL[k]? = some (1, ci, cs)) (hc : vwCl[ci]? = some (C, T, N)) (h1 : Cond.methodLink own index y ∈ wsL_law) (h2 : Cond.instanceMethod y ∈ wsL_law) (h3 : Cond.selects C y y ∈ wsL_law) (h4 : Cond.initialized C ∈ wsL_law) (h5 : Cond.code y bytes maxL ret ∈ wsL_law) (hd : y.cls = C ∧ y.cls ≠ "java/lang/invoke/MethodHandle" ∧ y.cls ≠ "java/lang/invoke/VarHandle" ∧ (parseMethodDescriptor y.desc).map (fun d => d.parameters.length) = some n) (hR : rm.cells = 0 ∧ rm.slots = 0 ∧ rm.frames + 1 ≤ R.frames ∧ 8 + (maxL + 11) + rm.locals ≤ R.locals) (hn : As.length = n) (hsz : ls.size = nL) (hst : (rest.map fun v => v.category).sum ≤ 8) (hstk : st = As.reverse ++ .ref (gad w k) :: rest) (hdg : decode cc pc = .ok (.invokevirtual index, 3)) (hf : cells ≤ R.cells ∧ slots ≤ R.slots)
    (kk : ∀ (r : Int) (σ1 : St) (H1 : Heap) (locs1 : List Loc), post r σ1 → gS w SL σ1 A s H0 H1 locs1 → W p l e R s m args below meth c H1 locs1 cells slots Q (F0 m (pc + 3) ls (.int (iz r) :: rest))) : W p l e R s m args below meth c H locs cells slots Q (F0 m pc ls st) :=
  g_doneI (n := n) (own := own) G hA (va_runV (As := As) (rest := rest) ⟨hexec, hb, hml, hown, hts⟩ hM (cwV n hts (gGood h1 h2 h3 h4 h5) rfl hR.1 hR.2.1 hd ⟨hR.2.2.1, hR.2.2.2⟩) (gPreV G hN hsh hc) rfl hn hsz hstk (lv_room hst) hdg ⟨hf.1, hf.2⟩) kk
theorem g_callVl (hexec : p.tables.exec = Jvm.exec) (hb : c.code = cc) (hml : c.maxLocals = nL) (hts : ∀ w ∈ wsL_law, w.before args s = true) {own : String} (hown : s.vm.findClass own = some m.cls) (hN : gNw s) (hA : ∀ q, H0.size ≤ q → A q) (G : gS w SL σ A s H0 H locs) {y : MethodName} {bytes : ByteArray} {maxL n index : Nat} {ret : Option FieldType} {rm : Room} (As : List Value) {post : Int → St → Prop} {k ci N : Nat} {cs : List Nat} {C : String} {T : u_T} (hM : Met l y (Cond.code y bytes maxL ret :: wsL_law) rm (gPc w SL σ H.size (.ref (gad w k) :: As)) (gQl w SL H.size post) 0 0 (gA w SL.length H.size)) (hsh : SL[k]? = some (1, ci, cs)) (hc : vwCl[ci]? = some (C, T, N)) (h1 : Cond.methodLink own index y ∈ wsL_law) (h2 : Cond.instanceMethod y ∈ wsL_law) (h3 : Cond.selects C y y ∈ wsL_law) (h4 : Cond.initialized C ∈ wsL_law) (h5 : Cond.code y bytes maxL ret ∈ wsL_law) (hd : y.cls = C ∧ y.cls ≠ "java/lang/invoke/MethodHandle" ∧ y.cls ≠ "java/lang/invoke/VarHandle" ∧ (parseMethodDescriptor y.desc).map (fun d => d.parameters.length) = some n) (hR : rm.cells = 0 ∧ rm.slots = 0 ∧ rm.frames + 1 ≤ R.frames ∧ 8 + (maxL + 11) + rm.locals ≤ R.locals) (hn : As.length = n) (hsz : ls.size = nL) (hst : (rest.map fun v => v.category).sum ≤ 8) (hstk : st = As.reverse ++ .ref (gad w k) :: rest) (hdg : decode cc pc = .ok (.invokevirtual index, 3)) (hf : cells ≤ R.cells ∧ slots ≤ R.slots)
    (kk : ∀ (r : Int) (σ1 : St) (H1 : Heap) (locs1 : List Loc), post r σ1 → gS w SL σ1 A s H0 H1 locs1 → W p l e R s m args below meth c H1 locs1 cells slots Q (F0 m (pc + 3) ls (.long (lz r) :: rest))) : W p l e R s m args below meth c H locs cells slots Q (F0 m pc ls st) :=
  g_doneL (n := n) (own := own) G hA (va_runV (As := As) (rest := rest) ⟨hexec, hb, hml, hown, hts⟩ hM (cwV n hts (gGood h1 h2 h3 h4 h5) rfl hR.1 hR.2.1 hd ⟨hR.2.2.1, hR.2.2.2⟩) (gPreV G hN hsh hc) rfl hn hsz hstk (lv_room hst) hdg ⟨hf.1, hf.2⟩) kk
theorem g_callVv (hexec : p.tables.exec = Jvm.exec) (hb : c.code = cc) (hml : c.maxLocals = nL) (hts : ∀ w ∈ wsL_law, w.before args s = true) {own : String} (hown : s.vm.findClass own = some m.cls) (hN : gNw s) (hA : ∀ q, H0.size ≤ q → A q) (G : gS w SL σ A s H0 H locs) {y : MethodName} {bytes : ByteArray} {maxL n index : Nat} {ret : Option FieldType} {rm : Room} (As : List Value) {post : St → Prop} {k ci N : Nat} {cs : List Nat} {C : String} {T : u_T} (hM : Met l y (Cond.code y bytes maxL ret :: wsL_law) rm (gPc w SL σ H.size (.ref (gad w k) :: As)) (gQv w SL H.size post) 0 0 (gA w SL.length H.size)) (hsh : SL[k]? = some (1, ci, cs)) (hc : vwCl[ci]? = some (C, T, N)) (h1 : Cond.methodLink own index y ∈ wsL_law) (h2 : Cond.instanceMethod y ∈ wsL_law) (h3 : Cond.selects C y y ∈ wsL_law) (h4 : Cond.initialized C ∈ wsL_law) (h5 : Cond.code y bytes maxL ret ∈ wsL_law) (hd : y.cls = C ∧ y.cls ≠ "java/lang/invoke/MethodHandle" ∧ y.cls ≠ "java/lang/invoke/VarHandle" ∧ (parseMethodDescriptor y.desc).map (fun d => d.parameters.length) = some n) (hR : rm.cells = 0 ∧ rm.slots = 0 ∧ rm.frames + 1 ≤ R.frames ∧ 8 + (maxL + 11) + rm.locals ≤ R.locals) (hn : As.length = n) (hsz : ls.size = nL) (hst : (rest.map fun v => v.category).sum ≤ 8) (hstk : st = As.reverse ++ .ref (gad w k) :: rest) (hdg : decode cc pc = .ok (.invokevirtual index, 3)) (hf : cells ≤ R.cells ∧ slots ≤ R.slots)
    (kk : ∀ (σ1 : St) (H1 : Heap) (locs1 : List Loc), post σ1 → gS w SL σ1 A s H0 H1 locs1 → W p l e R s m args below meth c H1 locs1 cells slots Q (F0 m (pc + 3) ls (rest))) : W p l e R s m args below meth c H locs cells slots Q (F0 m pc ls st) :=
  g_doneV (n := n) (own := own) G hA (va_runV (As := As) (rest := rest) ⟨hexec, hb, hml, hown, hts⟩ hM (cwV n hts (gGood h1 h2 h3 h4 h5) rfl hR.1 hR.2.1 hd ⟨hR.2.2.1, hR.2.2.2⟩) (gPreV G hN hsh hc) rfl hn hsz hstk (lv_room hst) hdg ⟨hf.1, hf.2⟩) kk
theorem g_callVr (hexec : p.tables.exec = Jvm.exec) (hb : c.code = cc) (hml : c.maxLocals = nL) (hts : ∀ w ∈ wsL_law, w.before args s = true) {own : String} (hown : s.vm.findClass own = some m.cls) (hN : gNw s) (hA : ∀ q, H0.size ≤ q → A q) (G : gS w SL σ A s H0 H locs) {y : MethodName} {bytes : ByteArray} {maxL n index : Nat} {ret : Option FieldType} {rm : Room} (As : List Value) {post : Nat → St → Prop} {k ci N : Nat} {cs : List Nat} {C : String} {T : u_T} (hM : Met l y (Cond.code y bytes maxL ret :: wsL_law) rm (gPc w SL σ H.size (.ref (gad w k) :: As)) (gQr w SL H.size post) 0 0 (gA w SL.length H.size)) (hsh : SL[k]? = some (1, ci, cs)) (hc : vwCl[ci]? = some (C, T, N)) (h1 : Cond.methodLink own index y ∈ wsL_law) (h2 : Cond.instanceMethod y ∈ wsL_law) (h3 : Cond.selects C y y ∈ wsL_law) (h4 : Cond.initialized C ∈ wsL_law) (h5 : Cond.code y bytes maxL ret ∈ wsL_law) (hd : y.cls = C ∧ y.cls ≠ "java/lang/invoke/MethodHandle" ∧ y.cls ≠ "java/lang/invoke/VarHandle" ∧ (parseMethodDescriptor y.desc).map (fun d => d.parameters.length) = some n) (hR : rm.cells = 0 ∧ rm.slots = 0 ∧ rm.frames + 1 ≤ R.frames ∧ 8 + (maxL + 11) + rm.locals ≤ R.locals) (hn : As.length = n) (hsz : ls.size = nL) (hst : (rest.map fun v => v.category).sum ≤ 8) (hstk : st = As.reverse ++ .ref (gad w k) :: rest) (hdg : decode cc pc = .ok (.invokevirtual index, 3)) (hf : cells ≤ R.cells ∧ slots ≤ R.slots)
    (kk : ∀ (r : Nat) (σ1 : St) (H1 : Heap) (locs1 : List Loc), post r σ1 → gS w SL σ1 A s H0 H1 locs1 → W p l e R s m args below meth c H1 locs1 cells slots Q (F0 m (pc + 3) ls (.ref (gad w r) :: rest))) : W p l e R s m args below meth c H locs cells slots Q (F0 m pc ls st) :=
  g_doneR (n := n) (own := own) G hA (va_runV (As := As) (rest := rest) ⟨hexec, hb, hml, hown, hts⟩ hM (cwV n hts (gGood h1 h2 h3 h4 h5) rfl hR.1 hR.2.1 hd ⟨hR.2.2.1, hR.2.2.2⟩) (gPreV G hN hsh hc) rfl hn hsz hstk (lv_room hst) hdg ⟨hf.1, hf.2⟩) kk
theorem g_callSi (hexec : p.tables.exec = Jvm.exec) (hb : c.code = cc) (hml : c.maxLocals = nL) (hts : ∀ w ∈ wsL_law, w.before args s = true) {own : String} (hown : s.vm.findClass own = some m.cls) (hN : gNw s) (hA : ∀ q, H0.size ≤ q → A q) (G : gS w SL σ A s H0 H locs) {y : MethodName} {bytes : ByteArray} {maxL n index : Nat} {ret : Option FieldType} {rm : Room} (As : List Value) {post : Int → St → Prop} (hM : Met l y (Cond.code y bytes maxL ret :: wsL_law) rm (gPc w SL σ H.size As) (gQi w SL H.size post) 0 0 (gA w SL.length H.size)) (h1 : Cond.methodLink own index y ∈ wsL_law) (h2 : Cond.static y ∈ wsL_law) (h4 : Cond.initialized y.cls ∈ wsL_law) (h5 : Cond.code y bytes maxL ret ∈ wsL_law) (hd : y.cls ≠ "java/lang/invoke/MethodHandle" ∧ y.cls ≠ "java/lang/invoke/VarHandle" ∧ (parseMethodDescriptor y.desc).map (fun d => d.parameters.length) = some n) (hR : rm.cells = 0 ∧ rm.slots = 0 ∧ rm.frames + 1 ≤ R.frames ∧ 8 + (maxL + 11) + rm.locals ≤ R.locals) (hn : As.length = n) (hsz : ls.size = nL) (hst : (rest.map fun v => v.category).sum ≤ 8) (hstk : st = As.reverse ++ rest) (hdg : decode cc pc = .ok (.invokestatic index, 3)) (hf : cells ≤ R.cells ∧ slots ≤ R.slots)
    (kk : ∀ (r : Int) (σ1 : St) (H1 : Heap) (locs1 : List Loc), post r σ1 → gS w SL σ1 A s H0 H1 locs1 → W p l e R s m args below meth c H1 locs1 cells slots Q (F0 m (pc + 3) ls (.int (iz r) :: rest))) : W p l e R s m args below meth c H locs cells slots Q (F0 m pc ls st) :=
  g_doneI (n := n) (own := own) G hA (va_runS (As := As) (rest := rest) ⟨hexec, hb, hml, hown, hts⟩ hM (va_cwS n hts (gGoodS h1 h2 h4 h5) rfl hR.1 hR.2.1 hd ⟨hR.2.2.1, hR.2.2.2⟩) (gPreS G hN) rfl hn hsz hstk (lv_room hst) hdg ⟨hf.1, hf.2⟩) kk
theorem g_callSl (hexec : p.tables.exec = Jvm.exec) (hb : c.code = cc) (hml : c.maxLocals = nL) (hts : ∀ w ∈ wsL_law, w.before args s = true) {own : String} (hown : s.vm.findClass own = some m.cls) (hN : gNw s) (hA : ∀ q, H0.size ≤ q → A q) (G : gS w SL σ A s H0 H locs) {y : MethodName} {bytes : ByteArray} {maxL n index : Nat} {ret : Option FieldType} {rm : Room} (As : List Value) {post : Int → St → Prop} (hM : Met l y (Cond.code y bytes maxL ret :: wsL_law) rm (gPc w SL σ H.size As) (gQl w SL H.size post) 0 0 (gA w SL.length H.size)) (h1 : Cond.methodLink own index y ∈ wsL_law) (h2 : Cond.static y ∈ wsL_law) (h4 : Cond.initialized y.cls ∈ wsL_law) (h5 : Cond.code y bytes maxL ret ∈ wsL_law) (hd : y.cls ≠ "java/lang/invoke/MethodHandle" ∧ y.cls ≠ "java/lang/invoke/VarHandle" ∧ (parseMethodDescriptor y.desc).map (fun d => d.parameters.length) = some n) (hR : rm.cells = 0 ∧ rm.slots = 0 ∧ rm.frames + 1 ≤ R.frames ∧ 8 + (maxL + 11) + rm.locals ≤ R.locals) (hn : As.length = n) (hsz : ls.size = nL) (hst : (rest.map fun v => v.category).sum ≤ 8) (hstk : st = As.reverse ++ rest) (hdg : decode cc pc = .ok (.invokestatic index, 3)) (hf : cells ≤ R.cells ∧ slots ≤ R.slots)
    (kk : ∀ (r : Int) (σ1 : St) (H1 : Heap) (locs1 : List Loc), post r σ1 → gS w SL σ1 A s H0 H1 locs1 → W p l e R s m args below meth c H1 locs1 cells slots Q (F0 m (pc + 3) ls (.long (lz r) :: rest))) : W p l e R s m args below meth c H locs cells slots Q (F0 m pc ls st) :=
  g_doneL (n := n) (own := own) G hA (va_runS (As := As) (rest := rest) ⟨hexec, hb, hml, hown, hts⟩ hM (va_cwS n hts (gGoodS h1 h2 h4 h5) rfl hR.1 hR.2.1 hd ⟨hR.2.2.1, hR.2.2.2⟩) (gPreS G hN) rfl hn hsz hstk (lv_room hst) hdg ⟨hf.1, hf.2⟩) kk
theorem g_callNi (hexec : p.tables.exec = Jvm.exec) (hb : c.code = cc) (hml : c.maxLocals = nL) (hts : ∀ w ∈ wsL_law, w.before args s = true) {own : String} (hown : s.vm.findClass own = some m.cls) (hN : gNw s) (hA : ∀ q, H0.size ≤ q → A q) (G : gS w SL σ A s H0 H locs) {y : MethodName} {bytes : ByteArray} {maxL n index : Nat} {ret : Option FieldType} {rm : Room} (As : List Value) {post : Int → St → Prop} {host : String} (hM : Met l y (Cond.code y bytes maxL ret :: wsL_law) rm (gPc w SL σ H.size As) (gQi w SL H.size post) 0 0 (gA w SL.length H.size)) (h1 : (own, index, y, host) ∈ gNl) (h2 : Cond.static y ∈ wsL_law) (h4 : Cond.initialized y.cls ∈ wsL_law) (h5 : Cond.code y bytes maxL ret ∈ wsL_law) (hd : y.cls ≠ "java/lang/invoke/MethodHandle" ∧ y.cls ≠ "java/lang/invoke/VarHandle" ∧ (parseMethodDescriptor y.desc).map (fun d => d.parameters.length) = some n) (hR : rm.cells = 0 ∧ rm.slots = 0 ∧ rm.frames + 1 ≤ R.frames ∧ 8 + (maxL + 11) + rm.locals ≤ R.locals) (hn : As.length = n) (hsz : ls.size = nL) (hst : (rest.map fun v => v.category).sum ≤ 8) (hstk : st = As.reverse ++ rest) (hdg : decode cc pc = .ok (.invokestatic index, 3)) (hf : cells ≤ R.cells ∧ slots ≤ R.slots)
    (kk : ∀ (r : Int) (σ1 : St) (H1 : Heap) (locs1 : List Loc), post r σ1 → gS w SL σ1 A s H0 H1 locs1 → W p l e R s m args below meth c H1 locs1 cells slots Q (F0 m (pc + 3) ls (.int (iz r) :: rest))) : W p l e R s m args below meth c H locs cells slots Q (F0 m pc ls st) :=
  g_doneI (n := n) (own := own) G hA (va_runSN (As := As) (rest := rest) ⟨hexec, hb, hml, hown, hts⟩ hM ⟨va_cnB n hts (gGoodC h5) rfl hR.1 hR.2.1 (hN _ h1) (hts _ h4) hd ⟨hR.2.2.1, hR.2.2.2⟩, hts _ h2, trivial⟩ (gPreS G hN) rfl hn hsz hstk (lv_room hst) hdg ⟨hf.1, hf.2⟩) kk
theorem g_callNl (hexec : p.tables.exec = Jvm.exec) (hb : c.code = cc) (hml : c.maxLocals = nL) (hts : ∀ w ∈ wsL_law, w.before args s = true) {own : String} (hown : s.vm.findClass own = some m.cls) (hN : gNw s) (hA : ∀ q, H0.size ≤ q → A q) (G : gS w SL σ A s H0 H locs) {y : MethodName} {bytes : ByteArray} {maxL n index : Nat} {ret : Option FieldType} {rm : Room} (As : List Value) {post : Int → St → Prop} {host : String} (hM : Met l y (Cond.code y bytes maxL ret :: wsL_law) rm (gPc w SL σ H.size As) (gQl w SL H.size post) 0 0 (gA w SL.length H.size)) (h1 : (own, index, y, host) ∈ gNl) (h2 : Cond.static y ∈ wsL_law) (h4 : Cond.initialized y.cls ∈ wsL_law) (h5 : Cond.code y bytes maxL ret ∈ wsL_law) (hd : y.cls ≠ "java/lang/invoke/MethodHandle" ∧ y.cls ≠ "java/lang/invoke/VarHandle" ∧ (parseMethodDescriptor y.desc).map (fun d => d.parameters.length) = some n) (hR : rm.cells = 0 ∧ rm.slots = 0 ∧ rm.frames + 1 ≤ R.frames ∧ 8 + (maxL + 11) + rm.locals ≤ R.locals) (hn : As.length = n) (hsz : ls.size = nL) (hst : (rest.map fun v => v.category).sum ≤ 8) (hstk : st = As.reverse ++ rest) (hdg : decode cc pc = .ok (.invokestatic index, 3)) (hf : cells ≤ R.cells ∧ slots ≤ R.slots)
    (kk : ∀ (r : Int) (σ1 : St) (H1 : Heap) (locs1 : List Loc), post r σ1 → gS w SL σ1 A s H0 H1 locs1 → W p l e R s m args below meth c H1 locs1 cells slots Q (F0 m (pc + 3) ls (.long (lz r) :: rest))) : W p l e R s m args below meth c H locs cells slots Q (F0 m pc ls st) :=
  g_doneL (n := n) (own := own) G hA (va_runSN (As := As) (rest := rest) ⟨hexec, hb, hml, hown, hts⟩ hM ⟨va_cnB n hts (gGoodC h5) rfl hR.1 hR.2.1 (hN _ h1) (hts _ h4) hd ⟨hR.2.2.1, hR.2.2.2⟩, hts _ h2, trivial⟩ (gPreS G hN) rfl hn hsz hstk (lv_room hst) hdg ⟨hf.1, hf.2⟩) kk
end GCALL
