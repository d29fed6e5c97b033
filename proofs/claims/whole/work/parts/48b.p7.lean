theorem v_X6_nodeCount (σ : St) (hp : pre_X6_nodeCount σ) : V_X6_nodeCount σ (post_X6_nodeCount σ) := by
  refine ⟨hp, fun s h => ⟨trivial, fun r e => ⟨h, e⟩⟩⟩
theorem v_X6_islandCount (σ : St) (hp : pre_X6_islandCount σ) : V_X6_islandCount σ (post_X6_islandCount σ) := by
  refine ⟨hp, fun s h => ⟨trivial, fun r e => ⟨h, e⟩⟩⟩
theorem v_X6_waterLength (σ : St) (hp : pre_X6_waterLength σ) : V_X6_waterLength σ (post_X6_waterLength σ) := by
  refine ⟨hp, fun s h => ⟨trivial, fun r e => ⟨h, e⟩⟩⟩
theorem v_X6_longestWater (σ : St) (hp : pre_X6_longestWater σ) : V_X6_longestWater σ (post_X6_longestWater σ) := by
  refine ⟨hp, fun s h => ⟨trivial, fun r e => ⟨h, e⟩⟩⟩
theorem v_X6_nodeRule (x1 : Int) (σ : St) (hp : pre_X6_nodeRule x1 σ) : V_X6_nodeRule x1 σ (post_X6_nodeRule x1 σ) := by
  obtain ⟨hR, hx⟩ := hp
  refine ⟨hR, fun s h => ?_⟩
  have rg := h.2.2.2.rng
  refine ⟨⟨hx, by omega, by omega⟩, fun r7 e7 => ?_⟩
  have e7 : r7 = if 0 ≤ x1 ∧ x1 < s 61 11 then 1 else 0 := e7
  by_cases c : 0 ≤ x1 ∧ x1 < s 61 11
  · rw [if_pos c] at e7
    refine ⟨by rw [e7]; exact ⟨by decide, by decide⟩, fun z => absurd (e7.symm.trans z) (by decide), fun _ => ⟨hx, fun r e => ⟨s, h, fun _ => ⟨?_, rfl⟩, fun z => absurd c z⟩⟩⟩
    rw [e]
    exact if_pos ⟨c.1, by omega⟩
  · rw [if_neg c] at e7
    exact ⟨by rw [e7]; exact ⟨by decide, by decide⟩, fun _ => ⟨⟨by decide, by decide⟩, fun r e s' e' => ⟨s, h, fun z => absurd z c, fun _ => ⟨e, e'⟩⟩⟩, fun z => absurd e7 z⟩
theorem v_X6_nodeStart (x1 : Int) (σ : St) (hp : pre_X6_nodeStart x1 σ) : V_X6_nodeStart x1 σ (post_X6_nodeStart x1 σ) := by
  obtain ⟨hR, hx⟩ := hp
  refine ⟨hR, fun s h => ?_⟩
  have rg := h.2.2.2.rng
  refine ⟨⟨hx, by omega, by omega⟩, fun r7 e7 => ?_⟩
  have e7 : r7 = if 0 ≤ x1 ∧ x1 < s 61 11 then 1 else 0 := e7
  by_cases c : 0 ≤ x1 ∧ x1 < s 61 11
  · rw [if_pos c] at e7
    refine ⟨by rw [e7]; exact ⟨by decide, by decide⟩, fun z => absurd (e7.symm.trans z) (by decide), fun _ => ⟨hx, fun r e => ⟨s, h, fun _ => ⟨?_, rfl⟩, fun z => absurd c z⟩⟩⟩
    rw [e]
    exact if_pos ⟨c.1, by omega⟩
  · rw [if_neg c] at e7
    exact ⟨by rw [e7]; exact ⟨by decide, by decide⟩, fun _ => ⟨⟨by decide, by decide⟩, fun r e s' e' => ⟨s, h, fun z => absurd z c, fun _ => ⟨e, e'⟩⟩⟩, fun z => absurd e7 z⟩
theorem v_X6_nodeEnd (x1 : Int) (σ : St) (hp : pre_X6_nodeEnd x1 σ) : V_X6_nodeEnd x1 σ (post_X6_nodeEnd x1 σ) := by
  obtain ⟨hR, hx⟩ := hp
  refine ⟨hR, fun s h => ?_⟩
  have rg := h.2.2.2.rng
  refine ⟨⟨hx, by omega, by omega⟩, fun r7 e7 => ?_⟩
  have e7 : r7 = if 0 ≤ x1 ∧ x1 < s 61 11 then 1 else 0 := e7
  by_cases c : 0 ≤ x1 ∧ x1 < s 61 11
  · rw [if_pos c] at e7
    refine ⟨by rw [e7]; exact ⟨by decide, by decide⟩, fun z => absurd (e7.symm.trans z) (by decide), fun _ => ⟨hx, fun r e => ⟨s, h, fun _ => ⟨?_, rfl⟩, fun z => absurd c z⟩⟩⟩
    rw [e]
    exact if_pos ⟨c.1, by omega⟩
  · rw [if_neg c] at e7
    exact ⟨by rw [e7]; exact ⟨by decide, by decide⟩, fun _ => ⟨⟨by decide, by decide⟩, fun r e s' e' => ⟨s, h, fun z => absurd z c, fun _ => ⟨e, e'⟩⟩⟩, fun z => absurd e7 z⟩
theorem v_X6_nodeParent (x1 : Int) (σ : St) (hp : pre_X6_nodeParent x1 σ) : V_X6_nodeParent x1 σ (post_X6_nodeParent x1 σ) := by
  obtain ⟨hR, hx⟩ := hp
  refine ⟨hR, fun s h => ?_⟩
  have rg := h.2.2.2.rng
  refine ⟨⟨hx, by omega, by omega⟩, fun r7 e7 => ?_⟩
  have e7 : r7 = if 0 ≤ x1 ∧ x1 < s 61 11 then 1 else 0 := e7
  by_cases c : 0 ≤ x1 ∧ x1 < s 61 11
  · rw [if_pos c] at e7
    refine ⟨by rw [e7]; exact ⟨by decide, by decide⟩, fun z => absurd (e7.symm.trans z) (by decide), fun _ => ⟨hx, fun r e => ⟨s, h, fun _ => ⟨?_, rfl⟩, fun z => absurd c z⟩⟩⟩
    rw [e]
    exact if_pos ⟨c.1, by omega⟩
  · rw [if_neg c] at e7
    exact ⟨by rw [e7]; exact ⟨by decide, by decide⟩, fun _ => ⟨⟨by decide, by decide⟩, fun r e s' e' => ⟨s, h, fun z => absurd z c, fun _ => ⟨e, e'⟩⟩⟩, fun z => absurd e7 z⟩
theorem v_X6_nodeDepth (x1 : Int) (σ : St) (hp : pre_X6_nodeDepth x1 σ) : V_X6_nodeDepth x1 σ (post_X6_nodeDepth x1 σ) := by
  obtain ⟨hR, hx⟩ := hp
  refine ⟨hR, fun s h => ?_⟩
  have rg := h.2.2.2.rng
  refine ⟨⟨hx, by omega, by omega⟩, fun r7 e7 => ?_⟩
  have e7 : r7 = if 0 ≤ x1 ∧ x1 < s 61 11 then 1 else 0 := e7
  by_cases c : 0 ≤ x1 ∧ x1 < s 61 11
  · rw [if_pos c] at e7
    refine ⟨by rw [e7]; exact ⟨by decide, by decide⟩, fun z => absurd (e7.symm.trans z) (by decide), fun _ => ⟨hx, fun r e => ⟨s, h, fun _ => ⟨?_, rfl⟩, fun z => absurd c z⟩⟩⟩
    rw [e]
    exact if_pos ⟨c.1, by omega⟩
  · rw [if_neg c] at e7
    exact ⟨by rw [e7]; exact ⟨by decide, by decide⟩, fun _ => ⟨⟨by decide, by decide⟩, fun r e s' e' => ⟨s, h, fun z => absurd z c, fun _ => ⟨e, e'⟩⟩⟩, fun z => absurd e7 z⟩
theorem v_X6_nodeWater (x1 : Int) (σ : St) (hp : pre_X6_nodeWater x1 σ) : V_X6_nodeWater x1 σ (post_X6_nodeWater x1 σ) := by
  obtain ⟨hR, hx⟩ := hp
  refine ⟨hR, fun s h => ?_⟩
  have rg := h.2.2.2.rng
  refine ⟨⟨hx, by omega, by omega⟩, fun r7 e7 => ?_⟩
  have e7 : r7 = if 0 ≤ x1 ∧ x1 < s 61 11 then 1 else 0 := e7
  by_cases c : 0 ≤ x1 ∧ x1 < s 61 11
  · rw [if_pos c] at e7
    refine ⟨by rw [e7]; exact ⟨by decide, by decide⟩, fun z => absurd (e7.symm.trans z) (by decide), fun _ => ⟨hx, fun r e => ⟨s, h, fun _ => ⟨?_, rfl⟩, fun z => absurd c z⟩⟩⟩
    rw [e]
    exact if_pos ⟨c.1, by omega⟩
  · rw [if_neg c] at e7
    exact ⟨by rw [e7]; exact ⟨by decide, by decide⟩, fun _ => ⟨⟨by decide, by decide⟩, fun r e s' e' => ⟨s, h, fun z => absurd z c, fun _ => ⟨e, e'⟩⟩⟩, fun z => absurd e7 z⟩
theorem v_X6_nodeNumber (x1 : Int) (σ : St) (hp : pre_X6_nodeNumber x1 σ) : V_X6_nodeNumber x1 σ (post_X6_nodeNumber x1 σ) := by
  obtain ⟨hR, hx⟩ := hp
  refine ⟨hR, fun s h => ?_⟩
  have rg := h.2.2.2.rng
  refine ⟨⟨hx, by omega, by omega⟩, fun r7 e7 => ?_⟩
  have e7 : r7 = if 0 ≤ x1 ∧ x1 < s 61 11 then 1 else 0 := e7
  by_cases c : 0 ≤ x1 ∧ x1 < s 61 11
  · rw [if_pos c] at e7
    refine ⟨by rw [e7]; exact ⟨by decide, by decide⟩, fun z => absurd (e7.symm.trans z) (by decide), fun _ => ⟨hx, fun r e => ⟨s, h, fun _ => ⟨?_, rfl⟩, fun z => absurd c z⟩⟩⟩
    rw [e]
    exact if_pos ⟨c.1, by omega⟩
  · rw [if_neg c] at e7
    exact ⟨by rw [e7]; exact ⟨by decide, by decide⟩, fun _ => ⟨⟨by decide, by decide⟩, fun r e s' e' => ⟨s, h, fun z => absurd z c, fun _ => ⟨e, e'⟩⟩⟩, fun z => absurd e7 z⟩
theorem v_X6_matchEnd (x1 x2 : Int) (σ : St) (hp : pre_X6_matchEnd x1 x2 σ) : V_X6_matchEnd x1 x2 σ (post_X6_matchEnd x1 x2 σ) := by
  obtain ⟨hR, h1, h2⟩ := hp
  have hL : 0 ≤ σ 1 4 ∧ σ 1 4 ≤ 100 := hR.2.1.1
  have bad : ¬ (0 ≤ x1 ∧ x1 < 6 ∧ 0 ≤ x2 ∧ x2 ≤ σ 1 4) → (pre_X6_fail (-2) σ ∧ (∀ r10 : Int, r10 = ans_X6_fail (-2) σ → ∀ s8 : St, s8 = eff_X6_fail (-2) σ → post_X6_matchEnd x1 x2 σ r10 s8)) := fun c => ⟨⟨by decide, by decide⟩, fun r e s e' => ⟨fun _ => ⟨e, e'⟩, fun z => absurd z c⟩⟩
  refine ⟨h1, fun r4 e4 => ?_⟩
  have e4 : r4 = if 0 ≤ x1 ∧ x1 < 6 then 1 else 0 := e4
  by_cases c : 0 ≤ x1 ∧ x1 < 6
  · rw [if_pos c] at e4
    refine ⟨by rw [e4]; exact ⟨by decide, by decide⟩, fun z => absurd (e4.symm.trans z) (by decide), fun _ => ⟨h2, fun a => bad (by omega), fun a => ⟨trivial, fun r20 e20 => ?_⟩⟩⟩
    have e20 : r20 = σ 1 4 := e20
    refine ⟨⟨by omega, by omega⟩, fun b => ⟨hR, fun s24 h => ⟨⟨c.1, by omega, by omega, by omega⟩, fun r29 e29 => ⟨fun z => absurd ⟨c.1, c.2, by omega, by omega⟩ z, fun _ => ⟨h, ?_⟩⟩⟩⟩, fun b => bad (by omega)⟩
    rw [e29]
    exact tget_nn (by omega)
  · rw [if_neg c] at e4
    exact ⟨by rw [e4]; exact ⟨by decide, by decide⟩, fun _ => bad (fun z => c ⟨z.1, z.2.1⟩), fun z => absurd e4 z⟩
theorem l_X3_innermostAt (p : Int) (σ : St) (hp : pre_X3_innermostAt p σ) (Q : Int → St → Prop) (hQ : Q (inn σ p (σ 61 11).toNat) σ) : ∀ (n : Nat) (m : Nat), m < n → (m : Int) ≤ σ 61 11 → inn σ p m = inn σ p (σ 61 11).toNat → L_X3_innermostAt_7 Q p n ((m : Int) - 1) σ := by
  obtain ⟨h1, h2, h3, h4⟩ := hp
  intro n
  induction n with
  | zero => intro m hn; exact absurd hn (Nat.not_lt_zero _)
  | succ n ih =>
    intro m hn hm hI
    cases m with
    | zero =>
      refine ⟨⟨by omega, by omega⟩, fun _ => ?_, fun c => absurd (by omega) c⟩
      rw [← hI] at hQ
      exact hQ
    | succ m =>
      have em : ((m + 1 : Nat) : Int) - 1 = (m : Int) := by omega
      rw [em]
      have hr := h4 m (by omega) (by omega)
      have e0 : inn σ p (m + 1) = if σ 65 m ≤ p ∧ p < σ 67 m then (m : Int) else inn σ p m := rfl
      rw [e0] at hI
      refine ⟨⟨by omega, by omega⟩, fun c => absurd c (by omega), fun _ => ⟨⟨by omega, by omega⟩, fun r6 e6 => ?_⟩⟩
      have e6 : r6 = σ 65 m := by rw [e6]; exact if_pos ⟨by omega, by omega⟩
      have nxt : ¬ (σ 65 m ≤ p ∧ p < σ 67 m) → L_X3_innermostAt_7 Q p n ((m : Int) + (-1)) σ := fun c => by
        rw [if_neg c] at hI
        exact ih m (by omega) (by omega) hI
      refine ⟨by rw [e6]; exact hr.1, h1, fun a => nxt (by omega), fun a => ⟨⟨by omega, by omega⟩, fun r13 e13 => ?_⟩⟩
      have e13 : r13 = σ 67 m := by rw [e13]; exact if_pos ⟨by omega, by omega⟩
      refine ⟨by rw [e13]; exact hr.2, fun b => nxt (by omega), fun b => ?_⟩
      rw [if_pos ⟨by omega, by omega⟩] at hI
      rw [← hI] at hQ
      exact hQ
theorem v_X3_innermostAt (x1 : Int) (σ : St) (hp : pre_X3_innermostAt x1 σ) : V_X3_innermostAt x1 σ (post_X3_innermostAt x1 σ) := by
  have h := l_X3_innermostAt x1 σ hp _ (show post_X3_innermostAt x1 σ _ σ from ⟨rfl, rfl⟩) ((σ 61 11).toNat + 1) (σ 61 11).toNat (by omega) (by have := hp.2.1; omega) rfl
  rw [show (((σ 61 11).toNat : Nat) : Int) - 1 = σ 61 11 - 1 by have := hp.2.1; omega] at h
  exact ⟨_, h⟩
theorem l_X3_totalOf (k : Int) (σ : St) (hp : pre_X3_totalOf k σ) (Q : Int → St → Prop) (hQ : Q (cntr σ k (σ 61 11).toNat) σ) : ∀ (n : Nat) (m : Nat) (v : Int), (σ 61 11).toNat - m < n → (m : Int) ≤ σ 61 11 → v = cntr σ k m → L_X3_totalOf_4 Q k n v (m : Int) σ := by
  obtain ⟨h1, h2, h3, h4⟩ := hp
  intro n
  induction n with
  | zero => intro m v hn; exact absurd hn (Nat.not_lt_zero _)
  | succ n ih =>
    intro m v hn hm hv
    refine ⟨⟨by omega, by omega⟩, ⟨by omega, by omega⟩, fun c => ?_, fun c => ⟨⟨by omega, by omega⟩, fun r7 e7 => ?_⟩⟩
    · rw [hv, show m = (σ 61 11).toNat by omega]
      exact hQ
    · have e7 : r7 = σ 63 m := by rw [e7]; exact if_pos ⟨by omega, by omega⟩
      have es : cntr σ k (m + 1) = cntr σ k m + if σ 63 m = k then 1 else 0 := rfl
      refine ⟨by rw [e7]; exact h4 m (by omega) (by omega), h1, fun a => ?_, fun a => ?_⟩
      · have := ih (m + 1) v (by omega) (by omega) (by rw [es, if_neg (by rw [← e7]; exact a), Int.add_zero]; exact hv)
        exact this
      · have := ih (m + 1) (v + 1) (by omega) (by omega) (by rw [es, if_pos (by rw [← e7]; exact a), hv])
        exact this
theorem v_X3_totalOf (x1 : Int) (σ : St) (hp : pre_X3_totalOf x1 σ) : V_X3_totalOf x1 σ (post_X3_totalOf x1 σ) :=
  ⟨_, l_X3_totalOf x1 σ hp _ (show post_X3_totalOf x1 σ _ σ from ⟨rfl, rfl⟩) ((σ 61 11).toNat + 1) 0 0 (by omega) hp.2.1 rfl⟩
theorem v_X6_nodeAt (x1 : Int) (σ : St) (hp : pre_X6_nodeAt x1 σ) : V_X6_nodeAt x1 σ (post_X6_nodeAt x1 σ) := by
  obtain ⟨hR, hx⟩ := hp
  have hL : 0 ≤ σ 1 4 ∧ σ 1 4 ≤ 100 := hR.2.1.1
  refine ⟨⟨hx, by omega, by omega⟩, fun r4 e4 => ?_⟩
  have e4 : r4 = if 0 ≤ x1 ∧ x1 < σ 1 4 then 1 else 0 := e4
  by_cases c : 0 ≤ x1 ∧ x1 < σ 1 4
  · rw [if_pos c] at e4
    refine ⟨by rw [e4]; exact ⟨by decide, by decide⟩, fun _ => ⟨hR, fun s h => ?_⟩, fun z => absurd (e4.symm.trans z) (by decide)⟩
    have rg := h.2.2.2.rng
    refine ⟨⟨hx, rg.1.1, rg.1.2, fun j a b => ?_⟩, fun r e => ⟨fun z => absurd c z, fun _ => ⟨h, e⟩⟩⟩
    have := rg.2.2.2.2 j a b
    exact ⟨⟨by omega, by omega⟩, ⟨by omega, by omega⟩⟩
  · rw [if_neg c] at e4
    exact ⟨by rw [e4]; exact ⟨by decide, by decide⟩, fun z => absurd e4 z, fun _ => ⟨⟨by decide, by decide⟩, fun r e s e' => ⟨fun _ => ⟨e, e'⟩, fun z => absurd z c⟩⟩⟩
theorem v_X6_countOf (x1 : Int) (σ : St) (hp : pre_X6_countOf x1 σ) : V_X6_countOf x1 σ (post_X6_countOf x1 σ) := by
  obtain ⟨hR, hx⟩ := hp
  refine ⟨hx, fun r4 e4 => ?_⟩
  have e4 : r4 = if 0 ≤ x1 ∧ x1 < 6 then 1 else 0 := e4
  by_cases c : 0 ≤ x1 ∧ x1 < 6
  · rw [if_pos c] at e4
    refine ⟨by rw [e4]; exact ⟨by decide, by decide⟩, fun _ => ⟨hR, fun s h => ?_⟩, fun z => absurd (e4.symm.trans z) (by decide)⟩
    have rg := h.2.2.2.rng
    refine ⟨⟨hx, rg.1.1, rg.1.2, fun j a b => ?_⟩, fun r e => ⟨fun z => absurd c z, fun _ => ⟨h, e⟩⟩⟩
    have := rg.2.2.2.2 j a b
    exact ⟨by omega, by omega⟩
  · rw [if_neg c] at e4
    exact ⟨by rw [e4]; exact ⟨by decide, by decide⟩, fun z => absurd e4 z, fun _ => ⟨⟨by decide, by decide⟩, fun r e s e' => ⟨fun _ => ⟨e, e'⟩, fun z => absurd z c⟩⟩⟩
