theorem inn_none {σ : St} {p : Int} : ∀ n : Nat, (∀ i : Nat, i < n → ¬ (σ 65 i ≤ p ∧ p < σ 67 i)) → inn σ p n = -1 := by
  intro n
  induction n with
  | zero => intro _; rfl
  | succ n ih =>
    intro h
    show (if _ then _ else _) = _
    rw [if_neg (h n (Nat.lt_succ_self n))]
    exact ih (fun i hi => h i (by omega))
theorem inn_last {σ : St} {p : Int} {j : Nat} (hj : σ 65 j ≤ p ∧ p < σ 67 j) : ∀ n : Nat, j < n → (∀ i : Nat, j < i → i < n → ¬ (σ 65 i ≤ p ∧ p < σ 67 i)) → inn σ p n = j := by
  intro n
  induction n with
  | zero => intro h; exact absurd h (Nat.not_lt_zero _)
  | succ n ih =>
    intro h1 h2
    show (if _ then _ else _) = _
    by_cases c : n = j
    · rw [c, if_pos hj]
    · rw [if_neg (h2 n (by omega) (Nat.lt_succ_self n))]
      exact ih (by omega) (fun i a b => h2 i a (by omega))
def fcon (σ : St) (p f : Int) : Prop := σ 87 f ≤ p ∧ p < mt σ (σ 86 f) 0 (σ 87 f)
theorem l_X7_nodeAt (σ : St) (hq : QP σ) (p : Int) (ip : inR p) (Q : Int → St → Prop) (hQ : Q (inn σ p (σ 61 11).toNat) σ) : ∀ (n : Nat) (y2 y3 : Int), (σ 80 12 - y3).toNat < n → 0 ≤ y3 → y3 ≤ σ 80 12 → ((y2 = -1 ∧ ∀ f, 0 ≤ f → f < y3 → ¬ fcon σ p f) ∨ (y2 < y3 ∧ fcon σ p y2 ∧ ∃ jb, atN σ y2 jb ∧ ∀ f j, f < y3 → atN σ f j → fcon σ p f → σ 71 j ≤ σ 71 jb)) → L_X7_nodeAt_23 Q p n y2 y3 σ := by
  obtain ⟨a1, a2, a3, a4, a5, a6, a7, a8, a9⟩ := hq.all
  have hP := hq.1.2.2.1.2
  have dr : ∀ j, 0 ≤ j → j < σ 61 11 → 0 ≤ σ 71 j ∧ σ 71 j ≤ j := by
    have key : ∀ (n : Nat) (j : Int), j.toNat < n → 0 ≤ j → j < σ 61 11 → 0 ≤ σ 71 j ∧ σ 71 j ≤ j := by
      intro n
      induction n with
      | zero => intro j hn; exact absurd hn (Nat.not_lt_zero _)
      | succ n ih =>
        intro j hn h0 h1
        obtain ⟨v1, v2, v3, v4, v5, v6, v7⟩ := hP.2.1 j h0 h1
        rcases v5 with ⟨w1, w2, w3⟩ | ⟨w1, w2, w3⟩
        · omega
        · have := ih (σ 69 j) (by omega) w1.1 (by omega)
          omega
    exact fun j => key _ j (Nat.lt_succ_self _)
  have ccon : ∀ f j, atN σ f j → (fcon σ p f ↔ (σ 65 j ≤ p ∧ p < σ 67 j)) := fun f j h => by
    obtain ⟨b1, b2, b3, b4, b5⟩ := a6 _ _ h
    unfold fcon
    rw [b4, h.2.2]
  intro n
  induction n with
  | zero => intro y2 y3 hn; exact absurd hn (Nat.not_lt_zero _)
  | succ n ih =>
    intro y2 y3 hn h0 h1 hh
    have y2b : -1 ≤ y2 ∧ y2 < 100 := by
      rcases hh with ⟨z, -⟩ | ⟨-, -, jb, z, -⟩
      · omega
      · have := z.1
        omega
    refine ⟨⟨by omega, by omega⟩, ⟨by omega, by omega⟩, fun c => ?_, fun c => ?_⟩
    · refine ⟨⟨by omega, by omega⟩, fun z => ?_, fun z => ?_⟩
      · obtain ⟨-, g2, jb, g3, g4⟩ := hh.resolve_left (fun y => z y.1)
        refine ⟨⟨hq, g3.1.1, g3.1.2⟩, fun r18 s16 hpost => ?_⟩
        obtain ⟨e16, hat⟩ := hpost
        subst e16
        have jj := a8 _ _ _ g3 hat
        subst jj
        have jr := g3.2.1
        have je : ((jb.toNat : Nat) : Int) = jb := Int.toNat_of_nonneg jr.1
        have := inn_last (σ := s16) (p := p) (j := jb.toNat) (by rw [je]; exact (ccon _ _ g3).1 g2) (s16 61 11).toNat (by omega) (fun i u v w => ?_)
        · rw [this, je] at hQ
          exact hQ
        · obtain ⟨fi, hfi⟩ := a5 (i : Int) (by omega) (by omega)
          have l1 := g4 fi i (by have := hfi.1; omega) hfi ((ccon _ _ hfi).2 w)
          have l2 := (hP.2.2.1 jb i jr.1 (by omega) (by omega)).2 (by have := (ccon _ _ g3).1 g2; omega)
          omega
      · have g := hh.resolve_right (fun y => by have := y.2.2.choose_spec.1.1; omega)
        have := inn_none (σ := σ) (p := p) (σ 61 11).toNat (fun i u w => by
          obtain ⟨fi, hfi⟩ := a5 (i : Int) (by omega) (by omega)
          exact g.2 fi hfi.1.1 (by have := hfi.1; omega) ((ccon _ _ hfi).2 w))
        rw [this] at hQ
        exact hQ
    · have y3b : 0 ≤ y3 ∧ y3 < σ 80 12 := ⟨h0, by omega⟩
      obtain ⟨j3, hj3⟩ := a4 y3 y3b.1 y3b.2
      have rg := hq.rng.1 y3 y3b.1 y3b.2
      have rc := hq.rng.2 j3 hj3.2.1.1 hj3.2.1.2
      have b4 := (a6 _ _ hj3).2.2.2.1
      -- a found node that doesn't hold p changes nothing
      have skip : ¬ fcon σ p y3 → L_X7_nodeAt_23 Q p n y2 (y3 + 1) σ := fun nc => ih _ _ (by omega) (by omega) (by omega) (by
        rcases hh with ⟨g1, g2⟩ | ⟨g1, g2, jb, g3, g4⟩
        · refine Or.inl ⟨g1, fun f a b w => ?_⟩
          by_cases z : f = y3
          · subst z; exact nc w
          · exact g2 f a (by omega) w
        · refine Or.inr ⟨by omega, g2, jb, g3, fun f j a b w => ?_⟩
          by_cases z : f = y3
          · subst z; exact absurd w nc
          · exact g4 f j (by omega) b w)
      refine ⟨⟨by omega, by omega⟩, ⟨by omega, by omega⟩, ip, fun d => skip (fun w => by have := w.1; omega), fun d => ⟨⟨by omega, by omega, rg.1.1, rg.1.2, rg.2.1.1, by omega⟩, fun r26 e26 => ?_⟩⟩
      have e26 : r26 = mt σ (σ 86 y3) 0 (σ 87 y3) := e26
      rw [b4] at e26
      refine ⟨⟨by omega, by omega⟩, fun e => skip (fun w => by have := w.2; rw [b4] at this; omega), fun e => ?_⟩
      have yc : fcon σ p y3 := ⟨by omega, by rw [b4]; omega⟩
      refine ⟨⟨by omega, by omega⟩, fun z => ?_, fun z => ?_⟩
      · refine ih _ _ (by omega) (by omega) (by omega) (Or.inr ⟨by omega, yc, j3, hj3, fun f j a b w => ?_⟩)
        have g := hh.resolve_right (fun y => by have := y.2.2.choose_spec.1.1; omega)
        by_cases y : f = y3
        · subst y
          rw [a8 _ _ _ hj3 b]
          exact Int.le_refl _
        · exact absurd w (g.2 f b.1.1 (by omega))
      · obtain ⟨g1, g2, jb, g3, g4⟩ := hh.resolve_left (fun y => z y.1)
        refine ⟨⟨hq, y3b.1, y3b.2⟩, fun r34 s32 hpost => ?_⟩
        obtain ⟨e32, h34⟩ := hpost
        subst e32
        refine ⟨⟨hq, g3.1.1, g3.1.2⟩, fun r38 s36 hpost => ?_⟩
        obtain ⟨e36, h38⟩ := hpost
        subst e36
        have e34 := h34 _ hj3
        have e38 := h38 _ g3
        have d3 := dr j3 hj3.2.1.1 hj3.2.1.2
        have db := dr jb g3.2.1.1 g3.2.1.2
        have k1 := hj3.2.1
        have k2 := g3.2.1
        refine ⟨⟨by omega, by omega⟩, ⟨by omega, by omega⟩, fun w => ih _ _ (by omega) (by omega) (by omega) (Or.inr ⟨by omega, g2, jb, g3, fun f j a b v => ?_⟩), fun w => ih _ _ (by omega) (by omega) (by omega) (Or.inr ⟨by omega, yc, j3, hj3, fun f j a b v => ?_⟩)⟩
        · by_cases y : f = y3
          · subst y
            rw [← a8 _ _ _ hj3 b]
            omega
          · exact g4 f j (by omega) b v
        · by_cases y : f = y3
          · subst y
            rw [a8 _ _ _ hj3 b]
            exact Int.le_refl _
          · have := g4 f j (by omega) b v
            omega
theorem v_X7_nodeAt (x1 : Int) (σ : St) (hp : pre_X7_nodeAt x1 σ) : V_X7_nodeAt x1 σ (post_X7_nodeAt x1 σ) := by
  obtain ⟨hR, i1⟩ := hp
  obtain ⟨⟨t0, t1⟩, hT, hR'⟩ := mgW hR.1
  refine ⟨⟨i1, t0, t1⟩, fun r4 e4 => ?_⟩
  have e4 : r4 = if 0 ≤ x1 ∧ x1 < σ 81 0 then 1 else 0 := e4
  by_cases a : 0 ≤ x1 ∧ x1 < σ 81 0
  · rw [if_pos a] at e4
    refine ⟨by rw [e4]; exact ⟨by decide, by decide⟩, fun _ => ⟨hR, fun s8 hPP => ?_⟩, fun z => by omega⟩
    have b1 := hPP.q.all.1
    exact ⟨_, l_X7_nodeAt s8 hPP.q x1 i1 _ ⟨fun c => absurd a c, fun _ => ⟨hPP, rfl⟩⟩ ((s8 80 12 - 0).toNat + 1) (-1) 0 (by omega) (by decide) (by omega) (Or.inl ⟨rfl, fun f a b => by omega⟩)⟩
  · rw [if_neg a] at e4
    exact ⟨by rw [e4]; exact ⟨by decide, by decide⟩, fun z => absurd e4 z, fun _ => ⟨⟨by decide, by decide⟩, fun r45 e45 s43 e43 => ⟨fun _ => ⟨e45, e43⟩, fun c => absurd c a⟩⟩⟩
theorem cntr_cb (σ : St) (k : Int) : ∀ n : Nat, cntr σ k n = (cb (fun i => decide (σ 63 i = k)) n : Nat) := by
  intro n
  induction n with
  | zero => rfl
  | succ n ih =>
    show cntr σ k n + (if σ 63 n = k then 1 else 0) = ((cb _ n + if decide (σ 63 n = k) = true then 1 else 0 : Nat) : Int)
    rw [ih]
    by_cases c : σ 63 n = k
    · rw [if_pos c, if_pos (by rw [decide_eq_true_eq]; exact c)]
      omega
    · rw [if_neg c, if_neg (by rw [decide_eq_true_eq]; exact c)]
      omega
theorem l_X7_countOf (σ : St) (k : Int) (ik : inR k) (h12 : 0 ≤ σ 80 12 ∧ σ 80 12 ≤ 100) (hs : ∀ i, 0 ≤ i → i < σ 80 12 → inR (σ 86 i)) (Q : Int → St → Prop) (hQ : Q (cb (fun i => decide (σ 86 i = k)) (σ 80 12).toNat : Nat) σ) : ∀ (n m : Nat) (y2 : Int), (σ 80 12).toNat - m < n → (m : Int) ≤ σ 80 12 → y2 = (cb (fun i => decide (σ 86 i = k)) m : Nat) → L_X7_countOf_22 Q k n y2 (m : Int) σ := by
  intro n
  induction n with
  | zero => intro m y2 hn; exact absurd hn (Nat.not_lt_zero _)
  | succ n ih =>
    intro m y2 hn hm hy
    refine ⟨⟨by omega, by omega⟩, ⟨by omega, by omega⟩, fun c => ?_, fun c => ⟨⟨by omega, by omega⟩, hs _ (by omega) (by omega), ik, fun d => ?_, fun d => ?_⟩⟩
    · rw [show (σ 80 12).toNat = m by omega] at hQ
      rw [hy]
      exact hQ
    · have := ih (m + 1) (y2 + 0) (by omega) (by omega) ?_
      · rw [show ((m + 1 : Nat) : Int) = (m : Int) + 1 by omega] at this
        exact this
      · show _ = ((cb _ m + if decide (σ 86 m = k) = true then 1 else 0 : Nat) : Int)
        rw [if_neg (by rw [decide_eq_true_eq]; exact d), Int.add_zero]
        exact hy
    · have := ih (m + 1) (y2 + 1) (by omega) (by omega) ?_
      · rw [show ((m + 1 : Nat) : Int) = (m : Int) + 1 by omega] at this
        exact this
      · show _ = ((cb _ m + if decide (σ 86 m = k) = true then 1 else 0 : Nat) : Int)
        rw [if_pos (by rw [decide_eq_true_eq]; exact d), hy]
        omega
theorem QP.cnt {σ : St} (h : QP σ) (k : Int) : (cb (fun i => decide (σ 86 i = k)) (σ 80 12).toNat : Nat) = cntr σ k (σ 61 11).toNat := by
  obtain ⟨a1, a2, a3, a4, a5, a6, a7, a8, a9⟩ := h.all
  have hP := h.1.2.2.1.2
  rw [cntr_cb]
  have : cb (fun i => decide (σ 86 i = k)) (σ 80 12).toNat = cb (fun i => decide (σ 63 i = k)) (σ 61 11).toNat := by
    refine Nat.le_antisymm (cb_le (a := fun i => σ 87 i) (b := fun i => σ 65 i) (fun i k x y e => ?_) (fun i x y => ?_)) (cb_le (a := fun i => σ 65 i) (b := fun i => σ 87 i) (fun i k x y e => ?_) (fun i x y => ?_))
    · obtain ⟨i', hi'⟩ := a4 i (by omega) (by omega)
      have hk : atN σ k i' := ⟨⟨by omega, by omega⟩, hi'.2.1, hi'.2.2.trans e⟩
      have := a7 _ _ _ hi' hk
      omega
    · obtain ⟨i', hi'⟩ := a4 i (by omega) (by omega)
      rw [decide_eq_true_eq] at y
      have e : ((i'.toNat : Nat) : Int) = i' := Int.toNat_of_nonneg hi'.2.1.1
      have := hi'.2.1
      refine ⟨i'.toNat, by omega, ?_, ?_⟩
      · rw [decide_eq_true_eq, e, ← (a6 _ _ hi').1]
        exact y
      · show σ 65 ((i'.toNat : Nat) : Int) = σ 87 i
        rw [e]
        exact hi'.2.2
    · have := PO_inj hP (i := (i : Int)) (j := (k : Int)) (by omega) (by omega) e
      omega
    · obtain ⟨f', hf'⟩ := a5 i (by omega) (by omega)
      rw [decide_eq_true_eq] at y
      have e : ((f'.toNat : Nat) : Int) = f' := Int.toNat_of_nonneg hf'.1.1
      have := hf'.1
      refine ⟨f'.toNat, by omega, ?_, ?_⟩
      · rw [decide_eq_true_eq, e, (a6 _ _ hf').1]
        exact y
      · show σ 87 ((f'.toNat : Nat) : Int) = σ 65 i
        rw [e]
        exact hf'.2.2.symm
  rw [this]
theorem v_X7_countOf (x1 : Int) (σ : St) (hp : pre_X7_countOf x1 σ) : V_X7_countOf x1 σ (post_X7_countOf x1 σ) := by
  obtain ⟨hR, i1⟩ := hp
  refine ⟨i1, fun r4 e4 => ?_⟩
  have e4 : r4 = if 0 ≤ x1 ∧ x1 < 6 then 1 else 0 := e4
  by_cases a : 0 ≤ x1 ∧ x1 < 6
  · rw [if_pos a] at e4
    refine ⟨by rw [e4]; exact ⟨by decide, by decide⟩, fun _ => ⟨hR, fun s8 hPP => ?_⟩, fun z => by omega⟩
    have hq := hPP.q
    have b1 := hq.all.1
    refine ⟨_, l_X7_countOf s8 x1 i1 b1 (fun i a b => by have := (hq.rng.1 i a b).1; exact ⟨by omega, by omega⟩) _ ⟨fun c => absurd a c, fun _ => ⟨hPP, hq.cnt x1⟩⟩ ((s8 80 12).toNat - 0 + 1) 0 0 (by omega) (by omega) rfl⟩
  · rw [if_neg a] at e4
    exact ⟨by rw [e4]; exact ⟨by decide, by decide⟩, fun z => absurd e4 z, fun _ => ⟨⟨by decide, by decide⟩, fun r20 e20 s18 e18 => ⟨fun _ => ⟨e20, e18⟩, fun c => absurd c a⟩⟩⟩
