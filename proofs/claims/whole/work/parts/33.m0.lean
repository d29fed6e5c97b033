theorem sv7_n (σ : St) {q : Nat} (h : q ≠ 80) (h2 : q ≠ 82) : eff_X7_save σ q = σ q := by
  unfold eff_X7_save
  rw [up_n _ _ _ h, ur_n _ _ h2]
theorem sv7_80 (σ : St) {j : Int} (h : j ≠ 2) : eff_X7_save σ 80 j = σ 80 j := by
  unfold eff_X7_save
  rw [up_s, ui_n _ _ h, ur_n _ _ (by decide)]
theorem sv7_81 (σ : St) : eff_X7_save σ 81 = σ 81 := sv7_n σ (by decide) (by decide)
theorem sv7_83 (σ : St) : eff_X7_save σ 83 = σ 83 := sv7_n σ (by decide) (by decide)
theorem sv7_804 (σ : St) : eff_X7_save σ 80 4 = σ 80 4 := sv7_80 σ (by decide)
set_option maxHeartbeats 1000000 in
theorem v_X7_in (x0 x1 x2 : Int) (σ : St) (hp : pre_X7_in x0 x1 x2 σ) : V_X7_in x0 x1 x2 σ (post_X7_in x0 x1 x2 σ) := by
  simp only [pre_X7_in] at hp
  unfold V_X7_in
  try simp only [forall_eq, b01, b01R, Nat.reduceAdd, sv7_81, sv7_83, sv7_804]
  repeat' first | exact trivial | refine And.intro ?_ ?_ | intro _
  all_goals try simp only [post_X7_in, ans_X7_in, eff_X7_fail, Nat.reduceAdd, sv7_81, sv7_83, sv7_804]
  all_goals repeat' split
  all_goals first | rfl | omega | (exfalso; omega)
set_option maxHeartbeats 1000000 in
theorem v_X7_fail (x1 : Int) (σ : St) (hp : pre_X7_fail x1 σ) : V_X7_fail x1 σ (post_X7_fail x1 σ) := by
  simp only [pre_X7_fail] at hp
  unfold V_X7_fail
  try simp only [forall_eq, b01, b01R, Nat.reduceAdd, sv7_81, sv7_83, sv7_804]
  repeat' first | exact trivial | refine And.intro ?_ ?_ | intro _
  all_goals try simp only [post_X7_fail, ans_X7_fail, eff_X7_fail, eff_X7_fail, Nat.reduceAdd, sv7_81, sv7_83, sv7_804]
  all_goals repeat' split
  all_goals first | rfl | omega | (exfalso; omega)
set_option maxHeartbeats 1000000 in
theorem v_X7_isByte (x0 : Int) (σ : St) (hp : pre_X7_isByte x0 σ) : V_X7_isByte x0 σ (post_X7_isByte x0 σ) := by
  simp only [pre_X7_isByte] at hp
  unfold V_X7_isByte
  try simp only [pre_X7_in, ans_X7_in, forall_eq, b01, b01R, Nat.reduceAdd, sv7_81, sv7_83, sv7_804]
  repeat' first | exact trivial | refine And.intro ?_ ?_ | intro _
  all_goals try simp only [post_X7_isByte, ans_X7_isByte, eff_X7_fail, Nat.reduceAdd, sv7_81, sv7_83, sv7_804]
  all_goals repeat' split
  all_goals first | rfl | omega | (exfalso; omega)
set_option maxHeartbeats 1000000 in
theorem v_X7_isPosition (x1 : Int) (σ : St) (hp : pre_X7_isPosition x1 σ) : V_X7_isPosition x1 σ (post_X7_isPosition x1 σ) := by
  simp only [pre_X7_isPosition] at hp
  unfold V_X7_isPosition
  try simp only [pre_X7_in, ans_X7_in, forall_eq, b01, b01R, Nat.reduceAdd, sv7_81, sv7_83, sv7_804]
  repeat' first | exact trivial | refine And.intro ?_ ?_ | intro _
  all_goals try simp only [post_X7_isPosition, ans_X7_isPosition, eff_X7_fail, Nat.reduceAdd, sv7_81, sv7_83, sv7_804]
  all_goals repeat' split
  all_goals first | rfl | omega | (exfalso; omega)
set_option maxHeartbeats 1000000 in
theorem v_X7_replace (x1 x2 : Int) (σ : St) (hp : pre_X7_replace x1 x2 σ) : V_X7_replace x1 x2 σ (post_X7_replace x1 x2 σ) := by
  simp only [pre_X7_replace] at hp
  unfold V_X7_replace
  try simp only [pre_X7_fail, ans_X7_fail, pre_X7_isByte, ans_X7_isByte, pre_X7_isPosition, ans_X7_isPosition, pre_X7_save, forall_eq, b01, b01R, Nat.reduceAdd, sv7_81, sv7_83, sv7_804]
  repeat' first | exact trivial | refine And.intro ?_ ?_ | intro _
  all_goals try simp only [post_X7_replace, ans_X7_replace, eff_X7_replace, eff_X7_fail, Nat.reduceAdd, sv7_81, sv7_83, sv7_804]
  all_goals repeat' split
  all_goals first | rfl | omega | (exfalso; omega)
set_option maxHeartbeats 1000000 in
theorem v_X7_length (σ : St) (hp : pre_X7_length σ) : V_X7_length σ (post_X7_length σ) := by
  simp only [pre_X7_length] at hp
  unfold V_X7_length
  try simp only [forall_eq, b01, b01R, Nat.reduceAdd, sv7_81, sv7_83, sv7_804]
  repeat' first | exact trivial | refine And.intro ?_ ?_ | intro _
  all_goals try simp only [post_X7_length, ans_X7_length, eff_X7_fail, Nat.reduceAdd, sv7_81, sv7_83, sv7_804]
  all_goals repeat' split
  all_goals first | rfl | omega | (exfalso; omega)
set_option maxHeartbeats 1000000 in
theorem v_X7_byteAt (x1 : Int) (σ : St) (hp : pre_X7_byteAt x1 σ) : V_X7_byteAt x1 σ (post_X7_byteAt x1 σ) := by
  simp only [pre_X7_byteAt] at hp
  unfold V_X7_byteAt
  try simp only [pre_X7_fail, ans_X7_fail, pre_X7_isPosition, ans_X7_isPosition, forall_eq, b01, b01R, Nat.reduceAdd, sv7_81, sv7_83, sv7_804]
  repeat' first | exact trivial | refine And.intro ?_ ?_ | intro _
  all_goals try simp only [post_X7_byteAt, ans_X7_byteAt, eff_X7_byteAt, eff_X7_fail, Nat.reduceAdd, sv7_81, sv7_83, sv7_804]
  all_goals repeat' split
  all_goals first | rfl | omega | (exfalso; omega)
set_option maxHeartbeats 1000000 in
theorem v_X7_isRule (x0 : Int) (σ : St) (hp : pre_X7_isRule x0 σ) : V_X7_isRule x0 σ (post_X7_isRule x0 σ) := by
  simp only [pre_X7_isRule] at hp
  unfold V_X7_isRule
  try simp only [pre_X7_in, ans_X7_in, forall_eq, b01, b01R, Nat.reduceAdd, sv7_81, sv7_83, sv7_804]
  repeat' first | exact trivial | refine And.intro ?_ ?_ | intro _
  all_goals try simp only [post_X7_isRule, ans_X7_isRule, eff_X7_fail, Nat.reduceAdd, sv7_81, sv7_83, sv7_804]
  all_goals repeat' split
  all_goals first | rfl | omega | (exfalso; omega)
set_option maxHeartbeats 1000000 in
theorem v_X7_append (x1 : Int) (σ : St) (hp : pre_X7_append x1 σ) : V_X7_append x1 σ (post_X7_append x1 σ) := by
  simp only [pre_X7_append] at hp
  unfold V_X7_append
  try simp only [pre_X7_fail, ans_X7_fail, pre_X7_isByte, ans_X7_isByte, forall_eq, b01, b01R, Nat.reduceAdd, sv7_81, sv7_83, sv7_804]
  repeat' first | exact trivial | refine And.intro ?_ ?_ | intro _
  all_goals try simp only [post_X7_append, ans_X7_append, eff_X7_append, eff_X7_fail, Nat.reduceAdd, sv7_81, sv7_83, sv7_804]
  all_goals repeat' split
  all_goals first | rfl | omega | (exfalso; omega)
set_option maxHeartbeats 1000000 in
theorem v_X7_clearPattern (σ : St) (hp : pre_X7_clearPattern σ) : V_X7_clearPattern σ (post_X7_clearPattern σ) := by
  simp only [pre_X7_clearPattern] at hp
  unfold V_X7_clearPattern
  try simp only [forall_eq, b01, b01R, Nat.reduceAdd, sv7_81, sv7_83, sv7_804]
  repeat' first | exact trivial | refine And.intro ?_ ?_ | intro _
  all_goals try simp only [post_X7_clearPattern, ans_X7_clearPattern, eff_X7_clearPattern, eff_X7_fail, Nat.reduceAdd, sv7_81, sv7_83, sv7_804]
  all_goals repeat' split
  all_goals first | rfl | omega | (exfalso; omega)
set_option maxHeartbeats 1000000 in
theorem v_X7_isReference (x0 : Int) (σ : St) (hp : pre_X7_isReference x0 σ) : V_X7_isReference x0 σ (post_X7_isReference x0 σ) := by
  simp only [pre_X7_isReference] at hp
  unfold V_X7_isReference
  try simp only [pre_X7_in, ans_X7_in, forall_eq, b01, b01R, Nat.reduceAdd, sv7_81, sv7_83, sv7_804]
  repeat' first | exact trivial | refine And.intro ?_ ?_ | intro _
  all_goals try simp only [post_X7_isReference, ans_X7_isReference, eff_X7_fail, Nat.reduceAdd, sv7_81, sv7_83, sv7_804]
  all_goals repeat' split
  all_goals first | rfl | omega | (exfalso; omega)
set_option maxHeartbeats 1000000 in
theorem v_X7_undefine (x1 : Int) (σ : St) (hp : pre_X7_undefine x1 σ) : V_X7_undefine x1 σ (post_X7_undefine x1 σ) := by
  simp only [pre_X7_undefine] at hp
  unfold V_X7_undefine
  try simp only [pre_X7_fail, ans_X7_fail, pre_X7_isRule, ans_X7_isRule, pre_X7_save, forall_eq, b01, b01R, Nat.reduceAdd, sv7_81, sv7_83, sv7_804]
  repeat' first | exact trivial | refine And.intro ?_ ?_ | intro _
  all_goals try simp only [post_X7_undefine, ans_X7_undefine, eff_X7_undefine, eff_X7_fail, Nat.reduceAdd, sv7_81, sv7_83, sv7_804]
  all_goals repeat' split
  all_goals first | rfl | omega | (exfalso; omega)
set_option maxHeartbeats 1000000 in
theorem v_X7_setStop (x1 x2 : Int) (σ : St) (hp : pre_X7_setStop x1 x2 σ) : V_X7_setStop x1 x2 σ (post_X7_setStop x1 x2 σ) := by
  simp only [pre_X7_setStop] at hp
  unfold V_X7_setStop
  try simp only [pre_X7_fail, ans_X7_fail, pre_X7_isByte, ans_X7_isByte, pre_X7_isRule, ans_X7_isRule, pre_X7_save, forall_eq, b01, b01R, Nat.reduceAdd, sv7_81, sv7_83, sv7_804]
  repeat' first | exact trivial | refine And.intro ?_ ?_ | intro _
  all_goals try simp only [post_X7_setStop, ans_X7_setStop, eff_X7_setStop, eff_X7_fail, Nat.reduceAdd, sv7_81, sv7_83, sv7_804]
  all_goals repeat' split
  all_goals first | rfl | omega | (exfalso; omega)
set_option maxHeartbeats 1000000 in
theorem v_X7_elementOf (x1 x2 : Int) (σ : St) (hp : pre_X7_elementOf x1 x2 σ) : V_X7_elementOf x1 x2 σ (post_X7_elementOf x1 x2 σ) := by
  simp only [pre_X7_elementOf] at hp
  unfold V_X7_elementOf
  try simp only [forall_eq, b01, b01R, Nat.reduceAdd, sv7_81, sv7_83, sv7_804]
  repeat' first | exact trivial | refine And.intro ?_ ?_ | intro _
  all_goals try simp only [post_X7_elementOf, ans_X7_elementOf, eff_X7_fail, Nat.reduceAdd, sv7_81, sv7_83, sv7_804]
  all_goals repeat' split
  all_goals first | rfl | omega | (exfalso; omega)
set_option maxHeartbeats 1000000 in
theorem v_X7_element (x1 x2 : Int) (σ : St) (hp : pre_X7_element x1 x2 σ) : V_X7_element x1 x2 σ (post_X7_element x1 x2 σ) := by
  simp only [pre_X7_element] at hp
  have h5 := hp.2.2 x1
  unfold V_X7_element
  try simp only [pre_X7_elementOf, ans_X7_elementOf, pre_X7_fail, ans_X7_fail, pre_X7_isRule, ans_X7_isRule, forall_eq, b01, b01R, Nat.reduceAdd, sv7_81, sv7_83, sv7_804]
  repeat' first | exact trivial | refine And.intro ?_ ?_ | intro _
  all_goals try simp only [post_X7_element, ans_X7_element, eff_X7_element, eff_X7_fail, Nat.reduceAdd, sv7_81, sv7_83, sv7_804]
  all_goals repeat' split
  all_goals first | rfl | omega | (exfalso; omega)
set_option maxHeartbeats 1000000 in
theorem v_X7_cell (x0 x1 x2 : Int) (σ : St) (hp : pre_X7_cell x0 x1 x2 σ) : V_X7_cell x0 x1 x2 σ (post_X7_cell x0 x1 x2 σ) := by
  simp only [pre_X7_cell] at hp
  unfold V_X7_cell
  try simp only [forall_eq, b01, b01R, Nat.reduceAdd, sv7_81, sv7_83, sv7_804]
  repeat' first | exact trivial | refine And.intro ?_ ?_ | intro _
  all_goals try simp only [post_X7_cell, ans_X7_cell, eff_X7_fail, Nat.reduceAdd, sv7_81, sv7_83, sv7_804]
  all_goals repeat' split
  all_goals first | rfl | omega | (exfalso; omega)
set_option maxHeartbeats 1000000 in
theorem v_X7_errorCount (x1 : Int) (σ : St) (hp : pre_X7_errorCount x1 σ) : V_X7_errorCount x1 σ (post_X7_errorCount x1 σ) := by
  simp only [pre_X7_errorCount] at hp
  unfold V_X7_errorCount
  try simp only [pre_X7_fail, ans_X7_fail, pre_X7_in, ans_X7_in, forall_eq, b01, b01R, Nat.reduceAdd, sv7_81, sv7_83, sv7_804]
  repeat' first | exact trivial | refine And.intro ?_ ?_ | intro _
  all_goals try simp only [post_X7_errorCount, ans_X7_errorCount, eff_X7_errorCount, eff_X7_fail, Nat.reduceAdd, sv7_81, sv7_83, sv7_804]
  all_goals repeat' split
  all_goals first | rfl | omega | (exfalso; omega)
set_option maxHeartbeats 1000000 in
theorem v_X7_mix (x1 : Int) (σ : St) (hp : pre_X7_mix x1 σ) : V_X7_mix x1 σ (post_X7_mix x1 σ) := by
  simp only [pre_X7_mix] at hp
  unfold V_X7_mix
  try simp only [forall_eq, b01, b01R, Nat.reduceAdd, sv7_81, sv7_83, sv7_804]
  repeat' first | exact trivial | refine And.intro ?_ ?_ | intro _
  all_goals try simp only [post_X7_mix, eff_X7_mix, eff_X7_fail, Nat.reduceAdd, sv7_81, sv7_83, sv7_804]
  all_goals repeat' split
  all_goals first | rfl | omega | (exfalso; omega)
