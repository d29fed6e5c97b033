theorem v_X7_matchEnd (x1 x2 : Int) (σ : St) (hp : pre_X7_matchEnd x1 x2 σ) : V_X7_matchEnd x1 x2 σ (post_X7_matchEnd x1 x2 σ) := by
  obtain ⟨⟨hW, hM, hF, hE⟩, ir1, ir2⟩ := hp
  obtain ⟨⟨t0, t1⟩, hT, hR⟩ := mgW hW
  have hG : Good (mg (σ 81) 0) (ct σ) := by rw [← hE]; exact hF.1.2.2.1
  refine ⟨ir1, fun r4 e4 => ?_⟩
  have e4 : r4 = if 0 ≤ x1 ∧ x1 < 6 then 1 else 0 := e4
  by_cases a : 0 ≤ x1 ∧ x1 < 6
  · rw [if_pos a] at e4
    refine ⟨by rw [e4]; exact ⟨by decide, by decide⟩, fun z => by omega, fun _ => ⟨⟨ir2, by decide, by exact ⟨by omega, by omega⟩⟩, fun r14 e14 => ?_⟩⟩
    have e14 : r14 = if 0 ≤ x2 ∧ x2 ≤ σ 81 0 then 1 else 0 := e14
    by_cases b : 0 ≤ x2 ∧ x2 ≤ σ 81 0
    · rw [if_pos b] at e14
      refine ⟨by rw [e14]; exact ⟨by decide, by decide⟩, fun _ => ⟨⟨hW, hM⟩, fun s18 hpost => ⟨trivial, fun r23 e23 => ?_⟩⟩, fun z => by omega⟩
      have e23 : r23 = 101 * (9 * x1 + 0) + x2 := e23
      obtain ⟨m8, rows, good⟩ := hpost
      refine ⟨⟨by omega, by omega⟩, fun c => absurd ⟨a.1, a.2, b.1, b.2⟩ c, fun _ => ⟨rows, m8, ?_⟩⟩
      rw [e23]
      exact good_uniq hW hG good _ x2 (Nat.le_refl _) b.1 b.2 x1 a.1 a.2 0 (by decide) (by rw [m7_s a.1 a.2]; exact (hR _ a.1 a.2).1.1)
    · rw [if_neg b] at e14
      refine ⟨by rw [e14]; exact ⟨by decide, by decide⟩, fun z => absurd e14 z, fun _ => ⟨⟨by decide, by decide⟩, fun r28 e28 s26 e26 => ⟨fun _ => ⟨e28, e26⟩, fun c => absurd ⟨c.2.2.1, c.2.2.2⟩ b⟩⟩⟩
  · rw [if_neg a] at e4
    exact ⟨by rw [e4]; exact ⟨by decide, by decide⟩, fun _ => ⟨⟨by decide, by decide⟩, fun r10 e10 s8 e8 => ⟨fun _ => ⟨e10, e8⟩, fun c => absurd ⟨c.1, c.2.1⟩ a⟩⟩, fun z => absurd e4 z⟩
theorem l_X7_numberOf (σ : St) (f : Int) (hf : 0 ≤ f ∧ f < 100) (h12 : 0 ≤ σ 80 12 ∧ σ 80 12 ≤ 100) (hs : ∀ k, 0 ≤ k → k < σ 80 12 → inR (σ 87 k)) (hs1 : inR (σ 87 f)) (Q : Int → St → Prop) (hQ : Q (cb (fun i => decide (σ 87 i < σ 87 f)) (σ 80 12).toNat : Nat) σ) : ∀ (n m : Nat) (y2 : Int), (σ 80 12).toNat - m < n → (m : Int) ≤ σ 80 12 → y2 = (cb (fun i => decide (σ 87 i < σ 87 f)) m : Nat) → L_X7_numberOf_4 Q f n y2 (m : Int) σ := by
  intro n
  induction n with
  | zero => intro m y2 hn; exact absurd hn (Nat.not_lt_zero _)
  | succ n ih =>
    intro m y2 hn hm hy
    refine ⟨⟨by omega, by omega⟩, ⟨by omega, by omega⟩, fun c => ?_, fun c => ⟨⟨by omega, by omega⟩, hf, hs _ (by omega) (by omega), hs1, fun d => ?_, fun d => ?_⟩⟩
    · rw [show (σ 80 12).toNat = m by omega] at hQ
      rw [hy]
      exact hQ
    · have := ih (m + 1) (y2 + 0) (by omega) (by omega) ?_
      · rw [show ((m + 1 : Nat) : Int) = (m : Int) + 1 by omega] at this
        exact this
      · show _ = ((cb _ m + if decide (σ 87 m < σ 87 f) = true then 1 else 0 : Nat) : Int)
        rw [if_neg (by rw [decide_eq_true_eq]; omega), Int.add_zero]
        exact hy
    · have := ih (m + 1) (y2 + 1) (by omega) (by omega) ?_
      · rw [show ((m + 1 : Nat) : Int) = (m : Int) + 1 by omega] at this
        exact this
      · show _ = ((cb _ m + if decide (σ 87 m < σ 87 f) = true then 1 else 0 : Nat) : Int)
        rw [if_pos (by rw [decide_eq_true_eq]; omega), hy]
        omega
theorem QP.rng {σ : St} (h : QP σ) : (∀ f, 0 ≤ f → f < σ 80 12 → (0 ≤ σ 86 f ∧ σ 86 f < 6) ∧ (0 ≤ σ 87 f ∧ σ 87 f < 100) ∧ (-1 ≤ σ 88 f ∧ σ 88 f < 100) ∧ (0 ≤ σ 89 f ∧ σ 89 f ≤ 109) ∧ (-1 ≤ σ 90 f ∧ σ 90 f < 1000000)) ∧ (∀ j, 0 ≤ j → j < σ 61 11 → (0 ≤ σ 63 j ∧ σ 63 j < 6) ∧ (0 ≤ σ 65 j ∧ σ 65 j < 100) ∧ (0 ≤ σ 67 j ∧ σ 67 j ≤ 100) ∧ (-1 ≤ σ 69 j ∧ σ 69 j < 100) ∧ (0 ≤ σ 73 j ∧ σ 73 j ≤ 109) ∧ (-1 ≤ σ 75 j ∧ σ 75 j < 1000000)) := by
  have rg := h.1.2.2.1.rng
  obtain ⟨a1, a2, a3, a4, a5, a6, a7, a8, a9⟩ := h.all
  refine ⟨fun f x y => ?_, rg.2.2.2.2⟩
  obtain ⟨j, hj⟩ := a4 f x y
  obtain ⟨b1, b2, b3, b4, b5⟩ := a6 f j hj
  obtain ⟨r1, r2, r3, r4, r5, r6⟩ := rg.2.2.2.2 j hj.2.1.1 hj.2.1.2
  have h3 := hj.2.2
  refine ⟨by rw [b1]; exact r1, by rw [← h3]; exact r2, ?_, by rw [b2]; exact r5, by rw [b3]; exact r6⟩
  rcases b5 with ⟨z, -⟩ | ⟨z, -, z3⟩
  · omega
  · have := z3.1
    omega
theorem QP.num {σ : St} (h : QP σ) {f j : Int} (hj : atN σ f j) : cb (fun i => decide (σ 87 i < σ 87 f)) (σ 80 12).toNat = j.toNat := by
  obtain ⟨a1, a2, a3, a4, a5, a6, a7, a8, a9⟩ := h.all
  have hP := h.1.2.2.1.2
  have e1 : cb (fun i => decide (σ 65 i < σ 87 f)) (σ 61 11).toNat = j.toNat := by
    have j1 := hj.2.1
    refine cb_lt (by omega) (fun i hi => ?_)
    rw [decide_eq_true_eq, ← hj.2.2]
    rcases (show (i : Int) < j ∨ (i : Int) = j ∨ j < (i : Int) by omega) with c | c | c
    · have := (hP.2.2.1 i j (by omega) c j1.2).1
      exact ⟨fun _ => by omega, fun _ => this⟩
    · rw [c]
      exact ⟨fun z => by omega, fun z => by omega⟩
    · have := (hP.2.2.1 j i j1.1 c (by omega)).1
      exact ⟨fun z => by omega, fun z => by omega⟩
  rw [← e1]
  refine Nat.le_antisymm (cb_le (a := fun i => σ 87 i) (b := fun i => σ 65 i) (fun i k x y e => ?_) (fun i x y => ?_)) (cb_le (a := fun i => σ 65 i) (b := fun i => σ 87 i) (fun i k x y e => ?_) (fun i x y => ?_))
  · obtain ⟨i', hi'⟩ := a4 i (by omega) (by omega)
    have hk : atN σ k i' := ⟨⟨by omega, by omega⟩, hi'.2.1, hi'.2.2.trans e⟩
    have := a7 _ _ _ hi' hk
    omega
  · obtain ⟨i', hi'⟩ := a4 i (by omega) (by omega)
    rw [decide_eq_true_eq] at y
    have e : ((i'.toNat : Nat) : Int) = i' := Int.toNat_of_nonneg hi'.2.1.1
    have := hi'.2.1
    refine ⟨i'.toNat, by omega, ?_, ?_⟩
    · rw [decide_eq_true_eq, e, hi'.2.2]
      exact y
    · try dsimp only
      rw [e]
      exact hi'.2.2
  · have := PO_inj hP (i := (i : Int)) (j := (k : Int)) (by omega) (by omega) e
    omega
  · obtain ⟨f', hf'⟩ := a5 i (by omega) (by omega)
    rw [decide_eq_true_eq] at y
    have e : ((f'.toNat : Nat) : Int) = f' := Int.toNat_of_nonneg hf'.1.1
    have := hf'.1
    refine ⟨f'.toNat, by omega, ?_, ?_⟩
    · rw [decide_eq_true_eq, e, ← hf'.2.2]
      exact y
    · try dsimp only
      rw [e]
      exact hf'.2.2.symm
theorem v_X7_numberOf (x1 : Int) (σ : St) (hp : pre_X7_numberOf x1 σ) : V_X7_numberOf x1 σ (post_X7_numberOf x1 σ) := by
  obtain ⟨hq, h0, h1⟩ := hp
  obtain ⟨a1, a2, a3, a4, a5, a6, a7, a8, a9⟩ := hq.all
  have rg := hq.rng.1
  refine ⟨(σ 80 12).toNat + 1, l_X7_numberOf σ x1 ⟨h0, by omega⟩ a1 (fun k a b => by have := (rg k a b).2.1; exact ⟨by omega, by omega⟩) (by have := (rg x1 h0 h1).2.1; exact ⟨by omega, by omega⟩) _ ⟨rfl, ?_⟩ _ 0 0 (by omega) (by omega) rfl⟩
  obtain ⟨j, hj⟩ := a4 x1 h0 h1
  rw [hq.num hj, Int.toNat_of_nonneg hj.2.1.1]
  exact hj
theorem l_X7_foundOf (σ : St) (hq : QP σ) (x1 : Int) (h1 : 0 ≤ x1 ∧ x1 < σ 61 11) (Q : Int → St → Prop) (hQ : ∀ f, atN σ f x1 → Q f σ) : ∀ (n : Nat) (y2 : Int), (σ 80 12 - y2).toNat < n → 0 ≤ y2 → (∀ f, 0 ≤ f → f < y2 → ¬ atN σ f x1) → L_X7_foundOf_2 Q x1 n y2 σ := by
  obtain ⟨a1, a2, a3, a4, a5, a6, a7, a8, a9⟩ := hq.all
  intro n
  induction n with
  | zero => intro y2 hn; exact absurd hn (Nat.not_lt_zero _)
  | succ n ih =>
    intro y2 hn h0 hh
    obtain ⟨fx, hfx⟩ := a5 x1 h1.1 h1.2
    have fy : y2 ≤ fx := by
      rcases Int.lt_or_le fx y2 with c | c
      · exact absurd hfx (hh fx hfx.1.1 c)
      · exact c
    have := hfx.1
    refine ⟨⟨by omega, by omega⟩, ⟨by omega, by omega⟩, fun c => by omega, fun c => ⟨⟨hq, h0, by omega⟩, fun r7 s5 hpost => ?_⟩⟩
    obtain ⟨e5, hat⟩ := hpost
    have r2 := hat.2.1
    subst e5
    refine ⟨⟨by omega, by omega⟩, ⟨by omega, by omega⟩, fun d => ?_, fun d => ?_⟩
    · refine ih _ (by omega) (by omega) (fun f a b => ?_)
      by_cases z : f = y2
      · subst z
        intro w
        exact d (a8 _ _ _ hat w)
      · exact hh f a (by omega)
    · subst d
      exact hQ _ hat
theorem v_X7_foundOf (x1 : Int) (σ : St) (hp : pre_X7_foundOf x1 σ) : V_X7_foundOf x1 σ (post_X7_foundOf x1 σ) := by
  obtain ⟨hq, h0, h1⟩ := hp
  exact ⟨_, l_X7_foundOf σ hq x1 ⟨h0, h1⟩ _ (fun f h => ⟨rfl, h⟩) ((σ 80 12 - 0).toNat + 1) 0 (by omega) (by decide) (fun f a b => by omega)⟩
theorem PO_dep {g : Gr} {T : Tb} {σ : St} (h : PO g T σ) {j : Int} (h0 : 0 ≤ j) (h1 : j < σ 61 11) : (σ 69 j = -1 → σ 71 j = 0) ∧ (σ 69 j ≠ -1 → σ 71 j = σ 71 (σ 69 j) + 1) := by
  obtain ⟨v1, v2, v3, v4, v5, v6, v7⟩ := h.2.1 j h0 h1
  rcases v5 with ⟨w1, w2, w3⟩ | ⟨w1, w2, w3⟩
  · exact ⟨fun _ => w3, fun z => absurd w1 z⟩
  · exact ⟨fun z => by omega, fun _ => w3⟩
theorem l_X7_depthOf (σ : St) (hq : QP σ) (Q : Int → St → Prop) (D : Int) (hQ : Q D σ) : ∀ (n : Nat) (y2 y3 : Int), (y3 + 1).toNat < n → ((y3 = -1 ∧ y2 = D) ∨ ∃ j, atN σ y3 j ∧ y2 + σ 71 j + 1 = D) → L_X7_depthOf_9 Q n y2 y3 σ := by
  obtain ⟨a1, a2, a3, a4, a5, a6, a7, a8, a9⟩ := hq.all
  intro n
  induction n with
  | zero => intro y2 y3 hn; exact absurd hn (Nat.not_lt_zero _)
  | succ n ih =>
    intro y2 y3 hn hh
    rcases hh with ⟨h1, h2⟩ | ⟨j, hj, h2⟩
    · exact ⟨by rw [h1]; exact ⟨by decide, by decide⟩, fun _ => by rw [h2]; exact hQ, fun z => absurd h1 z⟩
    · have k1 := hj.1
      refine ⟨⟨by omega, by omega⟩, fun z => by omega, fun z => ⟨⟨by omega, by omega⟩, ?_⟩⟩
      obtain ⟨b1, b2, b3, b4, b5⟩ := a6 _ _ hj
      have dp := PO_dep hq.1.2.2.1.2 hj.2.1.1 hj.2.1.2
      rcases b5 with ⟨z1, z2⟩ | ⟨z1, z2, z3⟩
      · exact ih _ _ (by rw [z1]; omega) (Or.inl ⟨z1, by have := dp.1 z2; omega⟩)
      · have zz := z3.2.1
        have := dp.2 (by omega)
        exact ih _ _ (by omega) (Or.inr ⟨_, z3, by omega⟩)
theorem v_X7_depthOf (x1 : Int) (σ : St) (hp : pre_X7_depthOf x1 σ) : V_X7_depthOf x1 σ (post_X7_depthOf x1 σ) := by
  obtain ⟨hq, h0, h1⟩ := hp
  obtain ⟨a1, a2, a3, a4, a5, a6, a7, a8, a9⟩ := hq.all
  obtain ⟨j, hj⟩ := a4 x1 h0 h1
  obtain ⟨b1, b2, b3, b4, b5⟩ := a6 _ _ hj
  have dp := PO_dep hq.1.2.2.1.2 hj.2.1.1 hj.2.1.2
  refine ⟨⟨h0, by omega⟩, _, l_X7_depthOf σ hq _ (σ 71 j) ⟨rfl, fun j' h' => by rw [a8 _ _ _ hj h']⟩ ((σ 88 x1 + 1).toNat + 1) 0 (σ 88 x1) (by omega) ?_⟩
  rcases b5 with ⟨z1, z2⟩ | ⟨z1, z2, z3⟩
  · exact Or.inl ⟨z1, (dp.1 z2).symm⟩
  · have zz := z3.2.1
    have := dp.2 (by omega)
    exact Or.inr ⟨_, z3, by omega⟩
theorem v_X7_parentOf (x1 : Int) (σ : St) (hp : pre_X7_parentOf x1 σ) : V_X7_parentOf x1 σ (post_X7_parentOf x1 σ) := by
  obtain ⟨hq, h0, h1⟩ := hp
  obtain ⟨a1, a2, a3, a4, a5, a6, a7, a8, a9⟩ := hq.all
  obtain ⟨j, hj⟩ := a4 x1 h0 h1
  obtain ⟨b1, b2, b3, b4, b5⟩ := a6 _ _ hj
  have rg := (hq.rng.1 x1 h0 h1).2.2.1
  refine ⟨⟨h0, by omega⟩, ⟨by omega, by omega⟩, fun z => ⟨⟨h0, by omega⟩, ?_⟩, fun z => ⟨rfl, fun j' h' => ?_⟩⟩
  · obtain ⟨z1, z2, z3⟩ := b5.resolve_left (fun y => z y.1)
    refine ⟨⟨hq, z3.1.1, z3.1.2⟩, fun r8 s6 hpost => ⟨hpost.1, fun j' h' => ?_⟩⟩
    rw [← a8 _ _ _ hj h']
    exact a8 _ _ _ hpost.2 z3
  · rw [← a8 _ _ _ hj h']
    rcases b5 with ⟨z1, z2⟩ | ⟨z1, z2, z3⟩
    · exact z2.symm
    · have := z3.1
      omega
