-- the statement as printed is false: both constructors together make more slots (14351) than its room and its frame allow (12337)
def kArr : List (Nat × Nat) := [(3, 100), (5, 6), (7, 48), (9, 6), (14, 100), (16, 6), (18, 48), (20, 6), (23, 100), (25, 6), (27, 48), (29, 6), (32, 100), (34, 6), (36, 48), (38, 6), (41, 100), (43, 6), (45, 48), (47, 6), (49, 8), (51, 3), (54, 101), (56, 101), (58, 101), (60, 5454), (63, 100), (65, 100), (67, 100), (69, 100), (71, 100), (73, 100), (75, 100), (77, 100), (79, 100), (81, 161), (82, 644), (83, 8), (84, 3), (85, 5454), (86, 100), (87, 100), (88, 100), (89, 100), (90, 100)]
theorem kArr_ok : ∀ q ∈ kArr, ∃ cs, gSL[q.1]? = some (0, q.2, cs) := by
  have h : kArr.all (fun q => decide (gSL[q.1]? = some (0, q.2, []))) = true := by decide +kernel
  exact fun q hq => ⟨[], of_decide_eq_true (List.all_eq_true.mp h q hq)⟩
theorem kArr_nd : (kArr.map Prod.fst).Nodup := by decide +kernel
theorem kArr_sum : (kArr.map Prod.snd).sum = 14238 := by decide +kernel
theorem sum_at : ∀ (L : List Nat) (j n : Nat), L[j]? = some n → L.sum = n + (L.set j 0).sum := by
  intro L
  induction L with
  | nil => intro j n h; simp at h
  | cons a L ih =>
    intro j n h
    cases j with
    | zero =>
      simp at h
      subst h
      simp
    | succ j =>
      have h : L[j]? = some n := by simpa using h
      have := ih j n h
      show (a :: L).sum = n + (a :: L.set j 0).sum
      rw [List.sum_cons, List.sum_cons, this]
      omega
theorem sum_low : ∀ (js : List (Nat × Nat)) (L : List Nat), (js.map Prod.fst).Nodup → (∀ q ∈ js, L[q.1]? = some q.2) → (js.map Prod.snd).sum ≤ L.sum := by
  intro js
  induction js with
  | nil => intro L _ _; exact Nat.zero_le _
  | cons q js ih =>
    intro L hn h
    obtain ⟨h1, h2⟩ := List.nodup_cons.mp hn
    have e := sum_at L q.1 q.2 (h q List.mem_cons_self)
    have := ih (L.set q.1 0) h2 (fun x hx => by
      have hne : q.1 ≠ x.1 := fun z => h1 (by rw [z]; exact List.mem_map_of_mem hx)
      rw [List.getElem?_set_ne hne]
      exact h x (List.mem_cons_of_mem _ hx))
    show (q.2 :: js.map Prod.snd).sum ≤ _
    rw [List.sum_cons, e]
    omega
theorem nd_map {f : Nat → Nat} : ∀ K : List (Nat × Nat), (K.map Prod.fst).Nodup → (∀ a ∈ K, ∀ b ∈ K, f a.1 = f b.1 → a.1 = b.1) → (K.map (fun q => f q.1)).Nodup := by
  intro K
  induction K with
  | nil => intro _ _; exact List.nodup_nil
  | cons q K ih =>
    intro hn h
    obtain ⟨h1, h2⟩ := List.nodup_cons.mp hn
    refine List.nodup_cons.mpr ⟨fun z => ?_, ih h2 (fun a ha b hb => h a (List.mem_cons_of_mem _ ha) b (List.mem_cons_of_mem _ hb))⟩
    obtain ⟨x, hx, e⟩ := List.mem_map.mp z
    have := h x (List.mem_cons_of_mem _ hx) q List.mem_cons_self e
    exact h1 (by rw [← this]; exact List.mem_map_of_mem hx)
/-- what a run leaves: the cells of class and reference, apart and new -/
def bigX (s : State) (t : State) : Prop := ∃ (w : GW) (σ : St), va_P w.1 vwCl (gW w gSL σ) t.heap ∧ va_D (lwF s) (gW w gSL σ)
theorem big_slots {s t : State} (h : bigX s t) : 14238 ≤ ((t.heap.toList.drop s.heap.size).map (·.slots.size)).sum := by
  obtain ⟨w, σ, hP, hD⟩ := h
  have key : ∀ q ∈ kArr, s.heap.size ≤ gad w q.1 ∧ ∃ c : Cell, t.heap[gad w q.1]? = some c ∧ c.slots.size = q.2 := by
    intro q hq
    obtain ⟨cs, hs⟩ := kArr_ok q hq
    have ha := gW_at (w := w) (σ := σ) hs
    refine ⟨hD.2 q.1 _ ha, _, hP q.1 _ ha, ?_⟩
    show (arrV _ _ _).slots.size = q.2
    rw [arrV_size]
  have inj : ∀ a ∈ kArr, ∀ b ∈ kArr, (fun k => gad w k - s.heap.size) a.1 = (fun k => gad w k - s.heap.size) b.1 → a.1 = b.1 := by
    intro a ha b hb e
    have h1 := (key a ha).1
    have h2 := (key b hb).1
    have e : gad w a.1 - s.heap.size = gad w b.1 - s.heap.size := e
    obtain ⟨c1, g1⟩ := kArr_ok a ha
    obtain ⟨c2, g2⟩ := kArr_ok b hb
    exact hD.1 a.1 b.1 _ _ (gW_at g1) (gW_at g2) (by show gad w a.1 = gad w b.1; omega)
  have hn := nd_map (f := fun k => gad w k - s.heap.size) kArr kArr_nd inj
  have e1 : ((kArr.map (fun q => (gad w q.1 - s.heap.size, q.2))).map Prod.fst) = kArr.map (fun q => gad w q.1 - s.heap.size) := by rw [List.map_map]; rfl
  have e2 : ((kArr.map (fun q => (gad w q.1 - s.heap.size, q.2))).map Prod.snd) = kArr.map Prod.snd := by rw [List.map_map]; rfl
  have := sum_low (kArr.map (fun q => (gad w q.1 - s.heap.size, q.2))) ((t.heap.toList.drop s.heap.size).map (·.slots.size)) (by rw [e1]; exact hn) (fun x hx => by
    obtain ⟨q, hq, rfl⟩ := List.mem_map.mp hx
    obtain ⟨h1, c, h2, h3⟩ := key q hq
    show ((t.heap.toList.drop s.heap.size).map (·.slots.size))[gad w q.1 - s.heap.size]? = some q.2
    rw [List.getElem?_map, List.getElem?_drop, show s.heap.size + (gad w q.1 - s.heap.size) = gad w q.1 by omega, Array.getElem?_toList, h2]
    exact congrArg some h3)
  rw [e2, kArr_sum] at this
  exact this
def room_9 : Room := { frames := 11, cells := 91, slots := 14351, locals := 414 }
def lr_P (b : Addr) (xs : List Int32) (args : Array Value) (s : State) : Prop := args = #[.ref b] ∧ s.IntsAt b xs ∧ xs.length < 3
def lr_Q (_ : Array Value) (s : State) (o : Outcome) (t : State) : Prop := o = .returned (some (.int 1)) ∧ Framed s o t [] 91 14351 ∧ bigX s t
set_option maxHeartbeats 4000000 in
theorem lr_walk (l : Launch) (b : Addr) (xs : List Int32) : MetFree l x (headSpec (Jvm.Cond.code x code maxLocals ret :: tables_1) room_9) (lr_P b xs) (fun _ _ _ _ _ => True) lr_Q := by
  refine MetFree.of_bodyS (code := code) (maxLocals := maxLocals) (ret := ret) (by decide) ?_ ?_
  · intro args s m h hn
    obtain ⟨meth, c, h1, h2, h3, h4, h5, h6, -, -⟩ := Cond.code_spec hn (atoms_spec (ws := Jvm.Cond.code x code maxLocals ret :: tables_1) h _ List.mem_cons_self)
    exact ⟨meth, c, h1, h2, h3, h4, h5, h6⟩
  · intro p e s m args below meth c s₁ B hml0 hP _
    obtain ⟨rfl, hx, hbd⟩ := hP
    obtain ⟨scr, harrAt, hlist, hof, hsmall⟩ := hx
    obtain ⟨hcb, hkn, -, -⟩ := State.arrayAt?_spec harrAt
    have hown : s.vm.findClass RL = some m.cls := findClass_of_methodNamed B.named
    have hts0 : ∀ c ∈ (Jvm.Cond.code x code maxLocals ret :: tables_1), c.before #[Value.ref b] s = true := atoms_spec (ws := Jvm.Cond.code x code maxLocals ret :: tables_1) B.pre
    have hts : ∀ w ∈ lw_tbl, w.before #[Value.ref b] s = true := k2_hts_sels lw_privs (fun w hw => hts0 w (List.mem_cons_of_mem _ hw)) lw_privs_ok
    have hml : c.maxLocals = 4 := B.maxLocals_eq (hts0 _ List.mem_cons_self)
    have X₀ : Stand p l e room_9 s m #[Value.ref b] below meth c s₁ [] 0 0 := Stand.of_body B
    have hh0 : s₁.heap = s.heap := by rw [B.state]; rfl
    have hsz : scr.slots.size = xs.length := by rw [← Array.length_toList, hlist, List.length_map]
    have hval : ∀ j : Nat, j < xs.length → scr.slots[j]? = some (.int (xs.getD j 0)) := fun j hj => by
      rw [← Array.getElem?_toList, hlist]
      simp [hj]
    have hbl : b < s.heap.size := (Array.getElem?_eq_some_iff.mp hcb).1
    have hX : va_X b xs.length (fun j => xs.getD j 0) s s.heap := ⟨scr, hcb, hof, hkn, hsz, hval⟩
    have K : W p l e room_9 s m #[Value.ref b] below meth c s₁.heap [] 0 0 (lwE 91 14351 below s (bigX s)) (entryFrame m ([Value.ref b] : List Value).toArray 4) := by
      rw [hh0]
      exact law_run0 (R := room_9) (by decide) (by decide) ⟨by decide, by decide⟩ hbd ⟨B.exec, B.bytes, B.returns, hml, hown, hts, hX, hbl, B.notSynchronized⟩ (fun w σ H locs G t ht => ⟨w, σ, by rw [ht]; exact G.2.1, G.2.2.1⟩)
    obtain ⟨t, a1, o, b1, b2, b3, b4, b5⟩ := K s₁ rfl X₀
    exact ⟨t, o, a1, b1, b2, b3, b4, b5⟩
theorem lr_pre {args : Array Value} {s : State} (h : (Jvm.Cond.and given_1 narrow_1).before args s = true) (hr : rest_1_c.before args s = true) (hz : ∀ (b : Addr) (k : Cell), args[0]? = some (.ref b) → s.heap[b]? = some k → k.slots.size < 3) : ∃ (b : Addr) (xs : List Int32), lr_P b xs args s := by
  have hs := flat_of_before _ h
  have hq := flat_of_before _ hr
  have hc : (Cond.count 1).before args s = true := hs _ (by decide +kernel)
  have harr : (Cond.arrayOf (.arg 0) .int).before args s = true := hs _ (by decide +kernel)
  have hlen : (Cond.isInt (.length (.arg 0))).before args s = true := hq _ (by decide +kernel)
  have hall : (Cond.all (.arg 0) (.isInt (.elem (.arg 0) (.index 0)))).before args s = true := hq _ (by decide +kernel)
  obtain ⟨b, xs, hb, hx⟩ := State.ints_of_pre rfl harr hlen hall
  have hb : args[0]? = some (.ref b) := hb
  refine ⟨b, xs, Cond.one_arg hc hb, hx, ?_⟩
  obtain ⟨scr, harrAt, hlist, hof, hsmall⟩ := hx
  obtain ⟨hcb, hkn, -, -⟩ := State.arrayAt?_spec harrAt
  have h1 := hz b scr hb hcb
  rwa [← Array.length_toList, hlist, List.length_map] at h1
theorem not_framed {s t : State} {o : Outcome} {L : List Loc} (h : bigX s t) : ¬ Framed s o t L 91 12337 := by
  intro hF
  have h1 := big_slots h
  have h2 : ((t.heap.toList.drop s.heap.size).map (·.slots.size)).sum ≤ 12337 := hF.2.2.2.2.2.2.1
  omega
/-- at every start of the statement with a script of less than three ints at which the machine has room for 14351 slots, the law's own end is outside the statement's frame -/
theorem falls_of {l : Launch} {p : Program} {e : Env} {s : State} {m : MethodId} {args : Array Value} {below : List Frame} (hf : l.flags = flags0) (h : AtStart classFile x code maxLocals ret World_1 tables_1 room_1 Calls_1 rest_1 Pre_1 l p e s m args below) (hr : (headSpec (Jvm.Cond.code x code maxLocals ret :: tables_1) room_9).applies x e.platform s = true) (hz : ∀ (b : Addr) (k : Cell), args[0]? = some (.ref b) → s.heap[b]? = some k → k.slots.size < 3) : RefutedClaimed_1_1 ∧ RefutedClaimed_1_2 ∧ ¬ Claimed_1_1 ∧ ¬ Claimed_1_2 := by
  obtain ⟨h1, h2, h3, h4, h5, h6, h7, h8, h9, h10, h11, h12, h13⟩ := id h
  obtain ⟨b, xs, hP⟩ := lr_pre h13 h12 hz
  obtain ⟨n, o, g1, g2, g3, g4, g5, g6⟩ := lr_walk l b xs p e h3 h5 h6 s m args below h7 ((Spec.applies_iff_loose h7).mp hr).1 hP trivial
  refine ⟨⟨l, p, e, s, m, args, below, hf, h, n, o, g1, g2, g3, fun z => not_framed g6 z.2⟩, ⟨l, p, e, s, m, args, below, hf, h, n, o, g1, g2, g3, fun z => not_framed g6 z.2⟩, fun z => ?_, fun z => ?_⟩
  · obtain ⟨n2, o2, k1, k2, k3, k4⟩ := z l hf h1 h2 p e h3 h5 h6 s m args below h7 h8 h9 h10 ⟨h11, h12, h13⟩
    obtain ⟨en, eo⟩ := the_end_unique (f := fun k => stepsAlone p.tables e k s) g1 g3 k1 k3
    subst en
    exact not_framed g6 k4.2
  · obtain ⟨n2, o2, k1, k2, k3, k4⟩ := z l hf h1 h2 p e h3 h5 h6 s m args below h7 h8 h9 h10 ⟨h11, h12, h13⟩
    obtain ⟨en, eo⟩ := the_end_unique (f := fun k => stepsAlone p.tables e k s) g1 g3 k1 k3
    subst en
    exact not_framed g6 k4.2
