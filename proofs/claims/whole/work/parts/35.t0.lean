set_option maxHeartbeats 1000000 in
theorem v_X6_isDigit (x0 : Int) (σ : St) (hp : pre_X6_isDigit x0 σ) : V_X6_isDigit x0 σ (post_X6_isDigit x0 σ) := by
  simp only [pre_X6_isDigit, MB] at hp
  unfold V_X6_isDigit
  try simp only [forall_eq, b01, b01R, Nat.reduceAdd]
  repeat' first | exact trivial | refine And.intro ?_ ?_ | intro _
  all_goals try simp only [post_X6_isDigit, ans_X6_isDigit, eff_X4_set, Nat.reduceAdd]
  all_goals repeat' split
  all_goals first | rfl | omega | (exfalso; omega)
set_option maxHeartbeats 1000000 in
theorem v_X6_isLetter (x0 : Int) (σ : St) (hp : pre_X6_isLetter x0 σ) : V_X6_isLetter x0 σ (post_X6_isLetter x0 σ) := by
  simp only [pre_X6_isLetter, MB] at hp
  unfold V_X6_isLetter
  try simp only [forall_eq, b01, b01R, Nat.reduceAdd]
  repeat' first | exact trivial | refine And.intro ?_ ?_ | intro _
  all_goals try simp only [post_X6_isLetter, ans_X6_isLetter, eff_X4_set, Nat.reduceAdd]
  all_goals repeat' split
  all_goals first | rfl | omega | (exfalso; omega)
set_option maxHeartbeats 1000000 in
theorem v_X2_runEnd (k nn : Nat) (hik : isRow k nn) (x1 : Int) (σ : St) (hp : pre_X2_runEnd k nn x1 σ) : V_X2_runEnd k nn x1 σ (post_X2_runEnd k nn x1 σ) := by
  simp only [pre_X2_runEnd, MB] at hp
  have hlt := isRow_lt hik
  unfold V_X2_runEnd
  try simp only [pre_X4_get, ans_X4_get, forall_eq, b01, b01R, Nat.reduceAdd]
  repeat' first | exact trivial | refine And.intro ?_ ?_ | intro _
  all_goals try simp only [post_X2_runEnd, ans_X2_runEnd, eff_X4_set, Nat.reduceAdd]
  all_goals repeat' split
  all_goals first | rfl | omega | (exfalso; omega)
set_option maxHeartbeats 1000000 in
theorem v_X0_get (x1 x2 x3 : Int) (σ : St) (hp : pre_X0_get x1 x2 x3 σ) : V_X0_get x1 x2 x3 σ (post_X0_get x1 x2 x3 σ) := by
  simp only [pre_X0_get, MB] at hp
  unfold V_X0_get
  try simp only [tget, ct, forall_eq, b01, b01R, Nat.reduceAdd]
  repeat' first | exact trivial | refine And.intro ?_ ?_ | intro _
  all_goals try simp only [tget, ct, post_X0_get, ans_X0_get, eff_X4_set, Nat.reduceAdd]
  all_goals repeat' split
  all_goals first | rfl | omega | (exfalso; omega)
set_option maxHeartbeats 1000000 in
theorem v_X0_set (x1 x2 x3 x4 : Int) (σ : St) (hp : pre_X0_set x1 x2 x3 x4 σ) : V_X0_set x1 x2 x3 x4 σ (post_X0_set x1 x2 x3 x4 σ) := by
  simp only [pre_X0_set, MB] at hp
  unfold V_X0_set
  try simp only [forall_eq, b01, b01R, Nat.reduceAdd]
  repeat' first | exact trivial | refine And.intro ?_ ?_ | intro _
  all_goals try simp only [post_X0_set, eff_X0_set, eff_X4_set, Nat.reduceAdd]
  all_goals repeat' split
  all_goals first | rfl | omega | (exfalso; omega)
set_option maxHeartbeats 1000000 in
theorem v_X2_firstRule (x1 : Int) (σ : St) (hp : pre_X2_firstRule x1 σ) : V_X2_firstRule x1 σ (post_X2_firstRule x1 σ) := by
  simp only [pre_X2_firstRule, MB] at hp
  unfold V_X2_firstRule
  try simp only [pre_X4_get, ans_X4_get, forall_eq, b01, b01R, Nat.reduceAdd]
  repeat' first | exact trivial | refine And.intro ?_ ?_ | intro _
  all_goals try simp only [post_X2_firstRule, ans_X2_firstRule, eff_X4_set, Nat.reduceAdd]
  all_goals repeat' split
  all_goals first | rfl | omega | (exfalso; omega)
set_option maxHeartbeats 1000000 in
theorem v_X2_islandEnd (x1 x2 : Int) (σ : St) (hp : pre_X2_islandEnd x1 x2 σ) : V_X2_islandEnd x1 x2 σ (post_X2_islandEnd x1 x2 σ) := by
  simp only [pre_X2_islandEnd, MB] at hp
  unfold V_X2_islandEnd
  try simp only [pre_X0_get, ans_X0_get, forall_eq, b01, b01R, Nat.reduceAdd]
  repeat' first | exact trivial | refine And.intro ?_ ?_ | intro _
  all_goals try simp only [post_X2_islandEnd, ans_X2_islandEnd, eff_X4_set, Nat.reduceAdd]
  all_goals repeat' split
  all_goals first | rfl | omega | (exfalso; omega)
set_option maxHeartbeats 1000000 in
theorem v_X2_elementEnd (x1 x2 : Int) (σ : St) (hp : pre_X2_elementEnd x1 x2 σ) : V_X2_elementEnd x1 x2 σ (post_X2_elementEnd x1 x2 σ) := by
  simp only [pre_X2_elementEnd, MB] at hp
  have m54 := hp.2.2.2.2.2.2.1.1 x2
  have m56 := hp.2.2.2.2.2.2.1.2.1 x2
  unfold V_X2_elementEnd
  try simp only [tget, ct, pre_X0_get, ans_X0_get, pre_X4_get, ans_X4_get, pre_X5_textAt, ans_X5_textAt, pre_X6_isReference, ans_X6_isReference, forall_eq, b01, b01R, Nat.reduceAdd]
  repeat' first | exact trivial | refine And.intro ?_ ?_ | intro _
  all_goals try simp only [tget, ct, post_X2_elementEnd, ans_X2_elementEnd, eff_X4_set, Nat.reduceAdd]
  all_goals repeat' split
  all_goals first | rfl | omega | (exfalso; omega)
set_option maxHeartbeats 1000000 in
theorem v_X2_restMatches (x1 x2 x3 : Int) (σ : St) (hp : pre_X2_restMatches x1 x2 x3 σ) : V_X2_restMatches x1 x2 x3 σ (post_X2_restMatches x1 x2 x3 σ) := by
  simp only [pre_X2_restMatches, MB] at hp
  have m60 := hp.2.2.2.2.2.2.2.2.2 ((x1 * 9 + x2) * 101 + x3)
  unfold V_X2_restMatches
  try simp only [tget, ct, pre_X0_get, ans_X0_get, forall_eq, b01, b01R, Nat.reduceAdd]
  repeat' first | exact trivial | refine And.intro ?_ ?_ | intro _
  all_goals try simp only [tget, ct, post_X2_restMatches, ans_X2_restMatches, eff_X4_set, Nat.reduceAdd]
  all_goals repeat' split
  all_goals first | rfl | omega | (exfalso; omega)
