theorem PP.q {σ s : St} (h : PP σ s) : QP s := ⟨h.2.2.1, h.2.2.2.1, h.2.2.2.2⟩
theorem v_X7_askNode (x1 x2 : Int) (σ : St) (hp : pre_X7_askNode x1 x2 σ) : V_X7_askNode x1 x2 σ (post_X7_askNode x1 x2 σ) := by
  obtain ⟨hR, i1, x20, x26⟩ := hp
  refine ⟨hR, fun s2 hPP => ?_⟩
  have hq := hPP.q
  obtain ⟨a1, a2, a3, a4, a5, a6, a7, a8, a9⟩ := hq.all
  refine ⟨⟨i1, by decide, by exact ⟨by omega, by omega⟩⟩, fun r7 e7 => ?_⟩
  have e7 : r7 = if 0 ≤ x1 ∧ x1 ≤ s2 80 12 - 1 then 1 else 0 := e7
  by_cases a : 0 ≤ x1 ∧ x1 ≤ s2 80 12 - 1
  · rw [if_pos a] at e7
    refine ⟨by rw [e7]; exact ⟨by decide, by decide⟩, fun _ => ⟨⟨hq, a.1, by omega⟩, fun r13 s11 hpost => ?_⟩, fun z => by omega⟩
    obtain ⟨e11, hat⟩ := hpost
    subst e11
    have k := hat.1
    have rl : (0 : Int) ≤ r13 ∧ (r13 : Int) < 100 := ⟨k.1, by omega⟩
    obtain ⟨b1, b2, b3, b4, b5⟩ := a6 _ _ hat
    have rg := hq.rng.1 r13 k.1 k.2
    have fin : ∀ r, ((x2 = 0 → r = s11 63 x1) ∧ (x2 = 1 → r = s11 65 x1) ∧ (x2 = 2 → r = s11 67 x1) ∧ (x2 = 3 → r = s11 69 x1) ∧ (x2 = 4 → r = s11 71 x1) ∧ (x2 = 5 → r = s11 73 x1) ∧ (x2 = 6 → r = s11 75 x1)) → post_X7_askNode x1 x2 σ r s11 := fun r hr =>
      ⟨s11, hPP, fun c => absurd (show 0 ≤ x1 ∧ x1 < s11 61 11 by omega) c, fun _ => ⟨rfl, hr⟩⟩
    refine ⟨⟨by omega, by omega⟩, fun c => ⟨rl, fin _ ⟨fun _ => b1, fun z => by omega, fun z => by omega, fun z => by omega, fun z => by omega, fun z => by omega, fun z => by omega⟩⟩, fun c0 => ⟨fun c => ⟨rl, fin _ ⟨fun z => by omega, fun _ => hat.2.2.symm, fun z => by omega, fun z => by omega, fun z => by omega, fun z => by omega, fun z => by omega⟩⟩, fun c1 => ⟨fun c => ⟨⟨rl.1, rl.2, rg.1.1, rg.1.2, rg.2.1.1, by omega⟩, fun r22 e22 => fin _ ⟨fun z => by omega, fun z => by omega, fun _ => ?_, fun z => by omega, fun z => by omega, fun z => by omega, fun z => by omega⟩⟩, fun c2 => ⟨fun c => ⟨⟨hq, k.1, k.2⟩, fun r27 s25 hpost => ?_⟩, fun c3 => ⟨fun c => ⟨⟨hq, k.1, k.2⟩, fun r32 s30 hpost => ?_⟩, fun c4 => ⟨fun c => ⟨rl, fin _ ⟨fun z => by omega, fun z => by omega, fun z => by omega, fun z => by omega, fun z => by omega, fun _ => b2, fun z => by omega⟩⟩, fun c5 => ⟨rl, fin _ ⟨fun z => by omega, fun z => by omega, fun z => by omega, fun z => by omega, fun z => by omega, fun z => by omega, fun _ => b3⟩⟩⟩⟩⟩⟩⟩⟩
    · rw [e22]
      exact b4
    · obtain ⟨e25, h25⟩ := hpost
      subst e25
      exact fin _ ⟨fun z => by omega, fun z => by omega, fun z => by omega, fun _ => h25 _ hat, fun z => by omega, fun z => by omega, fun z => by omega⟩
    · obtain ⟨e30, h30⟩ := hpost
      subst e30
      exact fin _ ⟨fun z => by omega, fun z => by omega, fun z => by omega, fun z => by omega, fun _ => h30 _ hat, fun z => by omega, fun z => by omega⟩
  · rw [if_neg a] at e7
    refine ⟨by rw [e7]; exact ⟨by decide, by decide⟩, fun z => absurd e7 z, fun _ => ⟨⟨by decide, by decide⟩, fun r40 e40 s38 e38 => ⟨s2, hPP, fun _ => ⟨e40, e38⟩, fun c => absurd (show 0 ≤ x1 ∧ x1 ≤ s2 80 12 - 1 by omega) a⟩⟩⟩
theorem v_X7_nodeRule (x1 : Int) (σ : St) (hp : pre_X7_nodeRule x1 σ) : V_X7_nodeRule x1 σ (post_X7_nodeRule x1 σ) := by
  obtain ⟨hR, i1⟩ := hp
  refine ⟨⟨hR, i1, by decide, by decide⟩, fun r4 s2 hpost => ?_⟩
  obtain ⟨s, h1, h2, h3⟩ := hpost
  refine ⟨s, h1, fun c => ?_, h2⟩
  obtain ⟨h4, h5⟩ := h3 c
  exact ⟨h5.1 rfl, h4⟩
theorem v_X7_nodeStart (x1 : Int) (σ : St) (hp : pre_X7_nodeStart x1 σ) : V_X7_nodeStart x1 σ (post_X7_nodeStart x1 σ) := by
  obtain ⟨hR, i1⟩ := hp
  refine ⟨⟨hR, i1, by decide, by decide⟩, fun r4 s2 hpost => ?_⟩
  obtain ⟨s, h1, h2, h3⟩ := hpost
  refine ⟨s, h1, fun c => ?_, h2⟩
  obtain ⟨h4, h5⟩ := h3 c
  exact ⟨h5.2.1 rfl, h4⟩
theorem v_X7_nodeEnd (x1 : Int) (σ : St) (hp : pre_X7_nodeEnd x1 σ) : V_X7_nodeEnd x1 σ (post_X7_nodeEnd x1 σ) := by
  obtain ⟨hR, i1⟩ := hp
  refine ⟨⟨hR, i1, by decide, by decide⟩, fun r4 s2 hpost => ?_⟩
  obtain ⟨s, h1, h2, h3⟩ := hpost
  refine ⟨s, h1, fun c => ?_, h2⟩
  obtain ⟨h4, h5⟩ := h3 c
  exact ⟨h5.2.2.1 rfl, h4⟩
theorem v_X7_nodeParent (x1 : Int) (σ : St) (hp : pre_X7_nodeParent x1 σ) : V_X7_nodeParent x1 σ (post_X7_nodeParent x1 σ) := by
  obtain ⟨hR, i1⟩ := hp
  refine ⟨⟨hR, i1, by decide, by decide⟩, fun r4 s2 hpost => ?_⟩
  obtain ⟨s, h1, h2, h3⟩ := hpost
  refine ⟨s, h1, fun c => ?_, h2⟩
  obtain ⟨h4, h5⟩ := h3 c
  exact ⟨h5.2.2.2.1 rfl, h4⟩
theorem v_X7_nodeDepth (x1 : Int) (σ : St) (hp : pre_X7_nodeDepth x1 σ) : V_X7_nodeDepth x1 σ (post_X7_nodeDepth x1 σ) := by
  obtain ⟨hR, i1⟩ := hp
  refine ⟨⟨hR, i1, by decide, by decide⟩, fun r4 s2 hpost => ?_⟩
  obtain ⟨s, h1, h2, h3⟩ := hpost
  refine ⟨s, h1, fun c => ?_, h2⟩
  obtain ⟨h4, h5⟩ := h3 c
  exact ⟨h5.2.2.2.2.1 rfl, h4⟩
theorem v_X7_nodeWater (x1 : Int) (σ : St) (hp : pre_X7_nodeWater x1 σ) : V_X7_nodeWater x1 σ (post_X7_nodeWater x1 σ) := by
  obtain ⟨hR, i1⟩ := hp
  refine ⟨⟨hR, i1, by decide, by decide⟩, fun r4 s2 hpost => ?_⟩
  obtain ⟨s, h1, h2, h3⟩ := hpost
  refine ⟨s, h1, fun c => ?_, h2⟩
  obtain ⟨h4, h5⟩ := h3 c
  exact ⟨h5.2.2.2.2.2.1 rfl, h4⟩
theorem v_X7_nodeNumber (x1 : Int) (σ : St) (hp : pre_X7_nodeNumber x1 σ) : V_X7_nodeNumber x1 σ (post_X7_nodeNumber x1 σ) := by
  obtain ⟨hR, i1⟩ := hp
  refine ⟨⟨hR, i1, by decide, by decide⟩, fun r4 s2 hpost => ?_⟩
  obtain ⟨s, h1, h2, h3⟩ := hpost
  refine ⟨s, h1, fun c => ?_, h2⟩
  obtain ⟨h4, h5⟩ := h3 c
  exact ⟨h5.2.2.2.2.2.2 rfl, h4⟩
theorem v_X7_nodeCount (σ : St) (hp : pre_X7_nodeCount σ) : V_X7_nodeCount σ (post_X7_nodeCount σ) := by
  refine ⟨hp, fun s2 hPP => ⟨hPP, ?_⟩⟩
  obtain ⟨a1, a2, a3, a4, a5, a6, a7, a8, a9⟩ := hPP.q.all
  exact a3
theorem v_X7_islandCount (σ : St) (hp : pre_X7_islandCount σ) : V_X7_islandCount σ (post_X7_islandCount σ) := by
  refine ⟨hp, fun s2 hPP => ⟨hPP, ?_⟩⟩
  obtain ⟨a1, a2, a3, a4, a5, a6, a7, a8, a9⟩ := hPP.q.all
  exact a9.1
theorem v_X7_waterLength (σ : St) (hp : pre_X7_waterLength σ) : V_X7_waterLength σ (post_X7_waterLength σ) := by
  refine ⟨hp, fun s2 hPP => ⟨hPP, ?_⟩⟩
  obtain ⟨a1, a2, a3, a4, a5, a6, a7, a8, a9⟩ := hPP.q.all
  exact a9.2.1
theorem v_X7_longestWater (σ : St) (hp : pre_X7_longestWater σ) : V_X7_longestWater σ (post_X7_longestWater σ) := by
  refine ⟨hp, fun s2 hPP => ⟨hPP, ?_⟩⟩
  obtain ⟨a1, a2, a3, a4, a5, a6, a7, a8, a9⟩ := hPP.q.all
  exact a9.2.2
