theorem b01 {c : Prop} [Decidable c] : ((if c then (1 : Int) else 0) = 0) = ¬ c := by by_cases h : c <;> simp [h]
theorem b01R {c : Prop} [Decidable c] : inR (if c then (1 : Int) else 0) = True := by
  apply propext
  refine ⟨fun _ => trivial, fun _ => ?_⟩
  by_cases h : c
  · rw [if_pos h]; exact ⟨by decide, by decide⟩
  · rw [if_neg h]; exact ⟨by decide, by decide⟩
set_option maxHeartbeats 1000000 in
theorem v_X5_textSize (σ : St) (hp : pre_X5_textSize σ) : V_X5_textSize σ (post_X5_textSize σ) := by
  simp only [pre_X5_textSize] at hp
  unfold V_X5_textSize
  try simp only [forall_eq, b01, b01R]
  repeat' first | exact trivial | refine And.intro ?_ ?_ | intro _
  all_goals try simp only [post_X5_textSize, ans_X5_textSize, eff_X4_set]
  all_goals repeat' split
  all_goals first | rfl | omega | (exfalso; omega)
set_option maxHeartbeats 1000000 in
theorem v_X6_isByte (x0 : Int) (σ : St) (hp : pre_X6_isByte x0 σ) : V_X6_isByte x0 σ (post_X6_isByte x0 σ) := by
  simp only [pre_X6_isByte] at hp
  unfold V_X6_isByte
  try simp only [forall_eq, b01, b01R]
  repeat' first | exact trivial | refine And.intro ?_ ?_ | intro _
  all_goals try simp only [post_X6_isByte, ans_X6_isByte, eff_X4_set]
  all_goals repeat' split
  all_goals first | rfl | omega | (exfalso; omega)
set_option maxHeartbeats 1000000 in
theorem v_X4_get (k nn : Nat) (hik : isRow k nn) (x1 : Int) (σ : St) (hp : pre_X4_get k nn x1 σ) : V_X4_get k nn x1 σ (post_X4_get k nn x1 σ) := by
  simp only [pre_X4_get] at hp
  have hlt := isRow_lt hik
  unfold V_X4_get
  try simp only [forall_eq, b01, b01R]
  repeat' first | exact trivial | refine And.intro ?_ ?_ | intro _
  all_goals try simp only [post_X4_get, ans_X4_get, eff_X4_set]
  all_goals repeat' split
  all_goals first | rfl | omega | (exfalso; omega)
set_option maxHeartbeats 1000000 in
theorem v_X4_set (k nn : Nat) (hik : isRow k nn) (x1 x2 : Int) (σ : St) (hp : pre_X4_set k nn x1 x2 σ) : V_X4_set k nn x1 x2 σ (post_X4_set k nn x1 x2 σ) := by
  simp only [pre_X4_set] at hp
  have hlt := isRow_lt hik
  unfold V_X4_set
  try simp only [forall_eq, b01, b01R]
  repeat' first | exact trivial | refine And.intro ?_ ?_ | intro _
  all_goals try simp only [post_X4_set, eff_X4_set, eff_X4_set]
  all_goals repeat' split
  all_goals first | rfl | omega | (exfalso; omega)
set_option maxHeartbeats 1000000 in
theorem v_X6_fail (x1 : Int) (σ : St) (hp : pre_X6_fail x1 σ) : V_X6_fail x1 σ (post_X6_fail x1 σ) := by
  simp only [pre_X6_fail] at hp
  unfold V_X6_fail
  try simp only [pre_X4_get, ans_X4_get, pre_X4_set, forall_eq, b01, b01R]
  repeat' first | exact trivial | refine And.intro ?_ ?_ | intro _
  all_goals try simp only [post_X6_fail, ans_X6_fail, eff_X6_fail, eff_X4_set]
  all_goals repeat' split
  all_goals first | rfl | omega | (exfalso; omega)
set_option maxHeartbeats 1000000 in
theorem v_X1_slotAt (x1 : Int) (σ : St) (hp : pre_X1_slotAt x1 σ) : V_X1_slotAt x1 σ (post_X1_slotAt x1 σ) := by
  simp only [pre_X1_slotAt] at hp
  unfold V_X1_slotAt
  try simp only [forall_eq, b01, b01R]
  repeat' first | exact trivial | refine And.intro ?_ ?_ | intro _
  all_goals try simp only [post_X1_slotAt, ans_X1_slotAt, eff_X4_set]
  all_goals repeat' split
  all_goals first | rfl | omega | (exfalso; omega)
set_option maxHeartbeats 1000000 in
theorem v_X6_isInText (x1 : Int) (σ : St) (hp : pre_X6_isInText x1 σ) : V_X6_isInText x1 σ (post_X6_isInText x1 σ) := by
  simp only [pre_X6_isInText] at hp
  unfold V_X6_isInText
  try simp only [pre_X5_textSize, ans_X5_textSize, forall_eq, b01, b01R]
  repeat' first | exact trivial | refine And.intro ?_ ?_ | intro _
  all_goals try simp only [post_X6_isInText, ans_X6_isInText, eff_X4_set]
  all_goals repeat' split
  all_goals first | rfl | omega | (exfalso; omega)
set_option maxHeartbeats 1000000 in
theorem v_X5_textAt (x1 : Int) (σ : St) (hp : pre_X5_textAt x1 σ) : V_X5_textAt x1 σ (post_X5_textAt x1 σ) := by
  simp only [pre_X5_textAt] at hp
  unfold V_X5_textAt
  try simp only [pre_X4_get, ans_X4_get, forall_eq, b01, b01R]
  repeat' first | exact trivial | refine And.intro ?_ ?_ | intro _
  all_goals try simp only [post_X5_textAt, ans_X5_textAt, eff_X4_set]
  all_goals repeat' split
  all_goals first | rfl | omega | (exfalso; omega)
set_option maxHeartbeats 1000000 in
theorem v_X5_setByte (x1 x2 : Int) (σ : St) (hp : pre_X5_setByte x1 x2 σ) : V_X5_setByte x1 x2 σ (post_X5_setByte x1 x2 σ) := by
  simp only [pre_X5_setByte] at hp
  unfold V_X5_setByte
  try simp only [pre_X4_set, forall_eq, b01, b01R]
  repeat' first | exact trivial | refine And.intro ?_ ?_ | intro _
  all_goals try simp only [post_X5_setByte, eff_X5_setByte, eff_X4_set]
  all_goals repeat' split
  all_goals first | rfl | omega | (exfalso; omega)
set_option maxHeartbeats 1000000 in
theorem v_X6_length (σ : St) (hp : pre_X6_length σ) : V_X6_length σ (post_X6_length σ) := by
  simp only [pre_X6_length] at hp
  unfold V_X6_length
  try simp only [pre_X5_textSize, ans_X5_textSize, forall_eq, b01, b01R]
  repeat' first | exact trivial | refine And.intro ?_ ?_ | intro _
  all_goals try simp only [post_X6_length, ans_X6_length, eff_X4_set]
  all_goals repeat' split
  all_goals first | rfl | omega | (exfalso; omega)
set_option maxHeartbeats 1000000 in
theorem v_X6_byteAt (x1 : Int) (σ : St) (hp : pre_X6_byteAt x1 σ) : V_X6_byteAt x1 σ (post_X6_byteAt x1 σ) := by
  simp only [pre_X6_byteAt] at hp
  unfold V_X6_byteAt
  try simp only [pre_X5_textAt, ans_X5_textAt, pre_X6_fail, ans_X6_fail, pre_X6_isInText, ans_X6_isInText, forall_eq, b01, b01R]
  repeat' first | exact trivial | refine And.intro ?_ ?_ | intro _
  all_goals try simp only [post_X6_byteAt, ans_X6_byteAt, eff_X6_byteAt, eff_X4_set]
  all_goals repeat' split
  all_goals first | rfl | omega | (exfalso; omega)
set_option maxHeartbeats 1000000 in
theorem v_X6_append (x1 : Int) (σ : St) (hp : pre_X6_append x1 σ) : V_X6_append x1 σ (post_X6_append x1 σ) := by
  simp only [pre_X6_append] at hp
  unfold V_X6_append
  try simp only [pre_X4_set, pre_X6_fail, ans_X6_fail, pre_X6_isByte, ans_X6_isByte, forall_eq, b01, b01R]
  repeat' first | exact trivial | refine And.intro ?_ ?_ | intro _
  all_goals try simp only [post_X6_append, ans_X6_append, eff_X6_append, eff_X4_set]
  all_goals repeat' split
  all_goals first | rfl | omega | (exfalso; omega)
set_option maxHeartbeats 1000000 in
theorem v_X6_clearPattern (σ : St) (hp : pre_X6_clearPattern σ) : V_X6_clearPattern σ (post_X6_clearPattern σ) := by
  simp only [pre_X6_clearPattern] at hp
  unfold V_X6_clearPattern
  try simp only [forall_eq, b01, b01R]
  repeat' first | exact trivial | refine And.intro ?_ ?_ | intro _
  all_goals try simp only [post_X6_clearPattern, ans_X6_clearPattern, eff_X6_clearPattern, eff_X4_set]
  all_goals repeat' split
  all_goals first | rfl | omega | (exfalso; omega)
set_option maxHeartbeats 1000000 in
theorem v_X6_isRule (x0 : Int) (σ : St) (hp : pre_X6_isRule x0 σ) : V_X6_isRule x0 σ (post_X6_isRule x0 σ) := by
  simp only [pre_X6_isRule] at hp
  unfold V_X6_isRule
  try simp only [forall_eq, b01, b01R]
  repeat' first | exact trivial | refine And.intro ?_ ?_ | intro _
  all_goals try simp only [post_X6_isRule, ans_X6_isRule, eff_X4_set]
  all_goals repeat' split
  all_goals first | rfl | omega | (exfalso; omega)
set_option maxHeartbeats 1000000 in
theorem v_X6_isReference (x0 : Int) (σ : St) (hp : pre_X6_isReference x0 σ) : V_X6_isReference x0 σ (post_X6_isReference x0 σ) := by
  simp only [pre_X6_isReference] at hp
  unfold V_X6_isReference
  try simp only [forall_eq, b01, b01R]
  repeat' first | exact trivial | refine And.intro ?_ ?_ | intro _
  all_goals try simp only [post_X6_isReference, ans_X6_isReference, eff_X4_set]
  all_goals repeat' split
  all_goals first | rfl | omega | (exfalso; omega)
set_option maxHeartbeats 1000000 in
theorem v_X6_canStartPattern (x0 : Int) (σ : St) (hp : pre_X6_canStartPattern x0 σ) : V_X6_canStartPattern x0 σ (post_X6_canStartPattern x0 σ) := by
  simp only [pre_X6_canStartPattern] at hp
  unfold V_X6_canStartPattern
  try simp only [pre_X6_isReference, ans_X6_isReference, forall_eq, b01, b01R]
  repeat' first | exact trivial | refine And.intro ?_ ?_ | intro _
  all_goals try simp only [post_X6_canStartPattern, ans_X6_canStartPattern, eff_X4_set]
  all_goals repeat' split
  all_goals first | rfl | omega | (exfalso; omega)
set_option maxHeartbeats 1000000 in
theorem v_X5_patternSize (x1 : Int) (σ : St) (hp : pre_X5_patternSize x1 σ) : V_X5_patternSize x1 σ (post_X5_patternSize x1 σ) := by
  simp only [pre_X5_patternSize] at hp
  unfold V_X5_patternSize
  try simp only [pre_X4_get, ans_X4_get, forall_eq, b01, b01R]
  repeat' first | exact trivial | refine And.intro ?_ ?_ | intro _
  all_goals try simp only [post_X5_patternSize, ans_X5_patternSize, eff_X4_set]
  all_goals repeat' split
  all_goals first | rfl | omega | (exfalso; omega)
set_option maxHeartbeats 1000000 in
theorem v_X5_stopOf (x1 : Int) (σ : St) (hp : pre_X5_stopOf x1 σ) : V_X5_stopOf x1 σ (post_X5_stopOf x1 σ) := by
  simp only [pre_X5_stopOf] at hp
  unfold V_X5_stopOf
  try simp only [pre_X4_get, ans_X4_get, forall_eq, b01, b01R]
  repeat' first | exact trivial | refine And.intro ?_ ?_ | intro _
  all_goals try simp only [post_X5_stopOf, ans_X5_stopOf, eff_X4_set]
  all_goals repeat' split
  all_goals first | rfl | omega | (exfalso; omega)
set_option maxHeartbeats 1000000 in
theorem v_X5_putStop (x1 x2 : Int) (σ : St) (hp : pre_X5_putStop x1 x2 σ) : V_X5_putStop x1 x2 σ (post_X5_putStop x1 x2 σ) := by
  simp only [pre_X5_putStop] at hp
  unfold V_X5_putStop
  try simp only [pre_X4_set, forall_eq, b01, b01R]
  repeat' first | exact trivial | refine And.intro ?_ ?_ | intro _
  all_goals try simp only [post_X5_putStop, eff_X5_putStop, eff_X4_set]
  all_goals repeat' split
  all_goals first | rfl | omega | (exfalso; omega)
set_option maxHeartbeats 1000000 in
theorem v_X5_patternAt (x1 x2 : Int) (σ : St) (hp : pre_X5_patternAt x1 x2 σ) : V_X5_patternAt x1 x2 σ (post_X5_patternAt x1 x2 σ) := by
  simp only [pre_X5_patternAt] at hp
  unfold V_X5_patternAt
  try simp only [pre_X4_get, ans_X4_get, forall_eq, b01, b01R]
  repeat' first | exact trivial | refine And.intro ?_ ?_ | intro _
  all_goals try simp only [post_X5_patternAt, ans_X5_patternAt, eff_X4_set]
  all_goals repeat' split
  all_goals first | rfl | omega | (exfalso; omega)
set_option maxHeartbeats 1000000 in
theorem v_X6_element (x1 x2 : Int) (σ : St) (hp : pre_X6_element x1 x2 σ) : V_X6_element x1 x2 σ (post_X6_element x1 x2 σ) := by
  simp only [pre_X6_element] at hp
  have h5 := hp.2.2 x1
  unfold V_X6_element
  try simp only [pre_X5_patternAt, ans_X5_patternAt, pre_X5_patternSize, ans_X5_patternSize, pre_X6_fail, ans_X6_fail, pre_X6_isRule, ans_X6_isRule, forall_eq, b01, b01R]
  repeat' first | exact trivial | refine And.intro ?_ ?_ | intro _
  all_goals try simp only [post_X6_element, ans_X6_element, eff_X6_element, eff_X4_set]
  all_goals repeat' split
  all_goals first | rfl | omega | (exfalso; omega)
set_option maxHeartbeats 1000000 in
theorem v_X1_savedCount (σ : St) (hp : pre_X1_savedCount σ) : V_X1_savedCount σ (post_X1_savedCount σ) := by
  simp only [pre_X1_savedCount] at hp
  unfold V_X1_savedCount
  try simp only [forall_eq, b01, b01R]
  repeat' first | exact trivial | refine And.intro ?_ ?_ | intro _
  all_goals try simp only [post_X1_savedCount, ans_X1_savedCount, eff_X4_set]
  all_goals repeat' split
  all_goals first | rfl | omega | (exfalso; omega)
set_option maxHeartbeats 1000000 in
theorem v_X6_errorCount (x1 : Int) (σ : St) (hp : pre_X6_errorCount x1 σ) : V_X6_errorCount x1 σ (post_X6_errorCount x1 σ) := by
  simp only [pre_X6_errorCount] at hp
  unfold V_X6_errorCount
  try simp only [pre_X4_get, ans_X4_get, pre_X6_fail, ans_X6_fail, forall_eq, b01, b01R]
  repeat' first | exact trivial | refine And.intro ?_ ?_ | intro _
  all_goals try simp only [post_X6_errorCount, ans_X6_errorCount, eff_X6_errorCount, eff_X4_set]
  all_goals repeat' split
  all_goals first | rfl | omega | (exfalso; omega)
set_option maxHeartbeats 1000000 in
theorem v_X6_mix (x0 x2 : Int) (σ : St) (hp : pre_X6_mix x0 x2 σ) : V_X6_mix x0 x2 σ (post_X6_mix x0 x2 σ) := by
  simp only [pre_X6_mix] at hp
  unfold V_X6_mix
  try simp only [forall_eq, b01, b01R]
  repeat' first | exact trivial | refine And.intro ?_ ?_ | intro _
  all_goals try simp only [post_X6_mix, ans_X6_mix, eff_X4_set]
  all_goals repeat' split
  all_goals first | rfl | omega | (exfalso; omega)
