set_option maxHeartbeats 1000000 in
theorem v_X3_announce (x1 x2 x3 : Int) (σ : St) (hp : pre_X3_announce x1 x2 x3 σ) : V_X3_announce x1 x2 x3 σ (post_X3_announce x1 x2 x3 σ) := by
  simp only [pre_X3_announce] at hp
  unfold V_X3_announce
  try simp only [pre_X4_set, forall_eq, b01, b01R, Nat.reduceAdd]
  repeat' first | exact trivial | refine And.intro ?_ ?_ | intro _
  all_goals try simp only [post_X3_announce, eff_X3_announce, eff_X4_set, Nat.reduceAdd]
  all_goals repeat' split
  all_goals first | rfl | omega | (exfalso; omega)
set_option maxHeartbeats 1000000 in
theorem v_X3_takeTopLevel (x1 : Int) (σ : St) (hp : pre_X3_takeTopLevel x1 σ) : V_X3_takeTopLevel x1 σ (post_X3_takeTopLevel x1 σ) := by
  obtain ⟨p0, p1, hM, p2, p3⟩ := id hp
  have b58 := hM.2.2.1 x1
  have e1 : ans_X2_firstRule x1 σ = σ 58 x1 := if_pos (by omega)
  have e60 : ∀ τ : St, τ 60 = σ 60 → ∀ r, tget τ r 0 x1 = tget σ r 0 x1 := fun τ h r => by
    unfold tget
    rw [show ct τ = ct σ from by funext a b c; unfold ct; rw [h]]
  unfold V_X3_takeTopLevel
  simp only [pre_X2_firstRule, pre_X2_islandEnd, ans_X2_islandEnd, pre_X3_announce, forall_eq, e1, up_s, up_n _ _ _ (show (58 : Nat) ≠ 61 by decide)]
  refine ⟨⟨by omega, by omega⟩, ⟨by omega, by omega⟩, fun a => ⟨⟨p0, p1⟩, ⟨by omega, by omega, by omega, by omega⟩, ?_⟩, fun a => ⟨?_, ?_, ?_⟩⟩
  · refine ⟨?_, ?_⟩
    · show _ = ans_X3_takeTopLevel x1 σ
      unfold ans_X3_takeTopLevel
      rw [if_neg a]
      exact e60 _ (by unfold eff_X3_announce; rw [up_n _ _ _ (by decide), up_n _ _ _ (by decide), up_n _ _ _ (by decide), up_n _ _ _ (by decide)]) _
    · show _ = eff_X3_takeTopLevel x1 σ
      unfold eff_X3_takeTopLevel
      rw [if_neg a, ui_n _ _ (by decide)]
  · rw [ui_n _ _ (by decide), ui_n _ _ (by decide)]
    exact p2
  · rw [ui_s, ui_n _ _ (by decide)]
    exact p3
  · refine ⟨?_, ?_⟩
    · show _ = ans_X3_takeTopLevel x1 σ
      unfold ans_X3_takeTopLevel
      rw [if_pos a]
    · show _ = eff_X3_takeTopLevel x1 σ
      unfold eff_X3_takeTopLevel
      rw [if_pos a, ui_s, ui_n _ _ (by decide), ui_n _ _ (by decide), ui_n _ _ (by decide)]
set_option maxHeartbeats 1000000 in
theorem v_X3_total (σ : St) (hp : pre_X3_total σ) : V_X3_total σ (post_X3_total σ) := by
  simp only [pre_X3_total] at hp
  unfold V_X3_total
  try simp only [forall_eq, b01, b01R, Nat.reduceAdd]
  repeat' first | exact trivial | refine And.intro ?_ ?_ | intro _
  all_goals try simp only [post_X3_total, ans_X3_total, eff_X4_set, Nat.reduceAdd]
  all_goals repeat' split
  all_goals first | rfl | omega | (exfalso; omega)
set_option maxHeartbeats 1000000 in
theorem v_X3_topLevelTotal (σ : St) (hp : pre_X3_topLevelTotal σ) : V_X3_topLevelTotal σ (post_X3_topLevelTotal σ) := by
  simp only [pre_X3_topLevelTotal] at hp
  unfold V_X3_topLevelTotal
  try simp only [forall_eq, b01, b01R, Nat.reduceAdd]
  repeat' first | exact trivial | refine And.intro ?_ ?_ | intro _
  all_goals try simp only [post_X3_topLevelTotal, ans_X3_topLevelTotal, eff_X4_set, Nat.reduceAdd]
  all_goals repeat' split
  all_goals first | rfl | omega | (exfalso; omega)
set_option maxHeartbeats 1000000 in
theorem v_X3_topWater (σ : St) (hp : pre_X3_topWater σ) : V_X3_topWater σ (post_X3_topWater σ) := by
  simp only [pre_X3_topWater] at hp
  unfold V_X3_topWater
  try simp only [forall_eq, b01, b01R, Nat.reduceAdd]
  repeat' first | exact trivial | refine And.intro ?_ ?_ | intro _
  all_goals try simp only [post_X3_topWater, ans_X3_topWater, eff_X4_set, Nat.reduceAdd]
  all_goals repeat' split
  all_goals first | rfl | omega | (exfalso; omega)
set_option maxHeartbeats 1000000 in
theorem v_X3_longestTopWater (σ : St) (hp : pre_X3_longestTopWater σ) : V_X3_longestTopWater σ (post_X3_longestTopWater σ) := by
  simp only [pre_X3_longestTopWater] at hp
  unfold V_X3_longestTopWater
  try simp only [forall_eq, b01, b01R, Nat.reduceAdd]
  repeat' first | exact trivial | refine And.intro ?_ ?_ | intro _
  all_goals try simp only [post_X3_longestTopWater, ans_X3_longestTopWater, eff_X4_set, Nat.reduceAdd]
  all_goals repeat' split
  all_goals first | rfl | omega | (exfalso; omega)
set_option maxHeartbeats 1000000 in
theorem v_X3_has (x1 : Int) (σ : St) (hp : pre_X3_has x1 σ) : V_X3_has x1 σ (post_X3_has x1 σ) := by
  simp only [pre_X3_has] at hp
  unfold V_X3_has
  try simp only [forall_eq, b01, b01R, Nat.reduceAdd]
  repeat' first | exact trivial | refine And.intro ?_ ?_ | intro _
  all_goals try simp only [post_X3_has, ans_X3_has, eff_X4_set, Nat.reduceAdd]
  all_goals repeat' split
  all_goals first | rfl | omega | (exfalso; omega)
set_option maxHeartbeats 1000000 in
theorem v_X3_ruleOf (x1 : Int) (σ : St) (hp : pre_X3_ruleOf x1 σ) : V_X3_ruleOf x1 σ (post_X3_ruleOf x1 σ) := by
  simp only [pre_X3_ruleOf] at hp
  unfold V_X3_ruleOf
  try simp only [pre_X4_get, ans_X4_get, forall_eq, b01, b01R, Nat.reduceAdd]
  repeat' first | exact trivial | refine And.intro ?_ ?_ | intro _
  all_goals try simp only [post_X3_ruleOf, ans_X3_ruleOf, eff_X4_set, Nat.reduceAdd]
  all_goals repeat' split
  all_goals first | rfl | omega | (exfalso; omega)
set_option maxHeartbeats 1000000 in
theorem v_X3_startOf (x1 : Int) (σ : St) (hp : pre_X3_startOf x1 σ) : V_X3_startOf x1 σ (post_X3_startOf x1 σ) := by
  simp only [pre_X3_startOf] at hp
  unfold V_X3_startOf
  try simp only [pre_X4_get, ans_X4_get, forall_eq, b01, b01R, Nat.reduceAdd]
  repeat' first | exact trivial | refine And.intro ?_ ?_ | intro _
  all_goals try simp only [post_X3_startOf, ans_X3_startOf, eff_X4_set, Nat.reduceAdd]
  all_goals repeat' split
  all_goals first | rfl | omega | (exfalso; omega)
set_option maxHeartbeats 1000000 in
theorem v_X3_endOf (x1 : Int) (σ : St) (hp : pre_X3_endOf x1 σ) : V_X3_endOf x1 σ (post_X3_endOf x1 σ) := by
  simp only [pre_X3_endOf] at hp
  unfold V_X3_endOf
  try simp only [pre_X4_get, ans_X4_get, forall_eq, b01, b01R, Nat.reduceAdd]
  repeat' first | exact trivial | refine And.intro ?_ ?_ | intro _
  all_goals try simp only [post_X3_endOf, ans_X3_endOf, eff_X4_set, Nat.reduceAdd]
  all_goals repeat' split
  all_goals first | rfl | omega | (exfalso; omega)
set_option maxHeartbeats 1000000 in
theorem v_X3_parentOf (x1 : Int) (σ : St) (hp : pre_X3_parentOf x1 σ) : V_X3_parentOf x1 σ (post_X3_parentOf x1 σ) := by
  simp only [pre_X3_parentOf] at hp
  unfold V_X3_parentOf
  try simp only [pre_X4_get, ans_X4_get, forall_eq, b01, b01R, Nat.reduceAdd]
  repeat' first | exact trivial | refine And.intro ?_ ?_ | intro _
  all_goals try simp only [post_X3_parentOf, ans_X3_parentOf, eff_X4_set, Nat.reduceAdd]
  all_goals repeat' split
  all_goals first | rfl | omega | (exfalso; omega)
set_option maxHeartbeats 1000000 in
theorem v_X3_depthOf (x1 : Int) (σ : St) (hp : pre_X3_depthOf x1 σ) : V_X3_depthOf x1 σ (post_X3_depthOf x1 σ) := by
  simp only [pre_X3_depthOf] at hp
  unfold V_X3_depthOf
  try simp only [pre_X4_get, ans_X4_get, forall_eq, b01, b01R, Nat.reduceAdd]
  repeat' first | exact trivial | refine And.intro ?_ ?_ | intro _
  all_goals try simp only [post_X3_depthOf, ans_X3_depthOf, eff_X4_set, Nat.reduceAdd]
  all_goals repeat' split
  all_goals first | rfl | omega | (exfalso; omega)
set_option maxHeartbeats 1000000 in
theorem v_X3_waterOf (x1 : Int) (σ : St) (hp : pre_X3_waterOf x1 σ) : V_X3_waterOf x1 σ (post_X3_waterOf x1 σ) := by
  simp only [pre_X3_waterOf] at hp
  unfold V_X3_waterOf
  try simp only [pre_X4_get, ans_X4_get, forall_eq, b01, b01R, Nat.reduceAdd]
  repeat' first | exact trivial | refine And.intro ?_ ?_ | intro _
  all_goals try simp only [post_X3_waterOf, ans_X3_waterOf, eff_X4_set, Nat.reduceAdd]
  all_goals repeat' split
  all_goals first | rfl | omega | (exfalso; omega)
set_option maxHeartbeats 1000000 in
theorem v_X3_numberOf (x1 : Int) (σ : St) (hp : pre_X3_numberOf x1 σ) : V_X3_numberOf x1 σ (post_X3_numberOf x1 σ) := by
  simp only [pre_X3_numberOf] at hp
  unfold V_X3_numberOf
  try simp only [pre_X4_get, ans_X4_get, forall_eq, b01, b01R, Nat.reduceAdd]
  repeat' first | exact trivial | refine And.intro ?_ ?_ | intro _
  all_goals try simp only [post_X3_numberOf, ans_X3_numberOf, eff_X4_set, Nat.reduceAdd]
  all_goals repeat' split
  all_goals first | rfl | omega | (exfalso; omega)
