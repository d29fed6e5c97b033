theorem save_n (σ : St) {q : Nat} (h : q ≠ 10) (h2 : q < 12 ∨ 48 ≤ q) : eff_X1_save σ q = σ q := by
  obtain ⟨-, h3, h4⟩ := slot_st (σ 10 1) σ
  unfold eff_X1_save
  rw [up_n _ _ _ h, up_n _ _ _ h, cpS_n _ _ _ (by omega) (by omega) (by omega) (by omega) (by omega)]
theorem pc_n (σ : St) {q : Nat} (h0 : q ≠ 0) (h : q ≠ 10) (h2 : q < 12 ∨ 48 ≤ q) : eff_X6_prepareChange σ q = σ q := by
  unfold eff_X6_prepareChange
  rw [up_n _ _ _ h0, save_n σ h h2]
theorem pc_0 (σ : St) {j : Int} (h : j ≠ 7) : eff_X6_prepareChange σ 0 j = σ 0 j := by
  unfold eff_X6_prepareChange
  rw [up_s, ui_n _ _ h, save_n σ (by decide) (by decide)]
theorem pc_1 (σ : St) : eff_X6_prepareChange σ 1 = σ 1 := pc_n σ (by decide) (by decide) (by decide)
theorem pc_06 (σ : St) : eff_X6_prepareChange σ 0 6 = σ 0 6 := pc_0 σ (by decide)
theorem ib14 (x1 x2 : Int) (σ : St) : eff_X5_insertByte x1 x2 σ 1 4 = σ 1 4 + 1 := by
  unfold eff_X5_insertByte
  rw [up_s, ui_s]
theorem rb14 (x1 x2 : Int) (σ : St) : eff_X5_removeBytes x1 x2 σ 1 4 = σ 1 4 - x2 := by
  unfold eff_X5_removeBytes
  rw [ur_n _ _ (by decide), up_s, ui_s]
theorem sp06 (x1 x2 : Int) (σ : St) : eff_X5_setPattern x1 x2 σ 0 = σ 0 := by
  unfold eff_X5_setPattern
  rw [ur_n _ _ (by decide), up_n _ _ _ (by decide)]
theorem rs102 (σ : St) (h : 1 ≤ σ 10 2) : eff_X1_restore σ 10 2 = σ 10 2 - 1 := by
  unfold eff_X1_restore
  rw [up_s, ui_s]
  omega
set_option maxHeartbeats 1000000 in
theorem v_X6_insert (x1 x2 : Int) (σ : St) (hp : pre_X6_insert x1 x2 σ) : V_X6_insert x1 x2 σ (post_X6_insert x1 x2 σ) := by
  simp only [pre_X6_insert, pre_X1_save] at hp
  unfold V_X6_insert
  try simp only [pre_X1_save, pre_X5_insertByte, pre_X5_textSize, ans_X5_textSize, pre_X6_fail, ans_X6_fail, pre_X6_isByte, ans_X6_isByte, pre_X6_prepareChange, forall_eq, b01, b01R, Nat.reduceAdd, pc_1, pc_06, ib14, rb14, sp06]
  repeat' first | exact trivial | refine And.intro ?_ ?_ | intro _
  all_goals try simp only [post_X6_insert, ans_X6_insert, eff_X6_insert, eff_X4_set, Nat.reduceAdd, pc_1, pc_06, ib14, rb14, sp06]
  all_goals repeat' split
  all_goals first | rfl | omega | (exfalso; omega)
set_option maxHeartbeats 1000000 in
theorem v_X6_replace (x1 x2 : Int) (σ : St) (hp : pre_X6_replace x1 x2 σ) : V_X6_replace x1 x2 σ (post_X6_replace x1 x2 σ) := by
  simp only [pre_X6_replace, pre_X1_save] at hp
  unfold V_X6_replace
  try simp only [pre_X1_save, pre_X5_setByte, pre_X5_textAt, ans_X5_textAt, pre_X6_fail, ans_X6_fail, pre_X6_isByte, ans_X6_isByte, pre_X6_isInText, ans_X6_isInText, pre_X6_prepareChange, forall_eq, b01, b01R, Nat.reduceAdd, pc_1, pc_06, ib14, rb14, sp06]
  repeat' first | exact trivial | refine And.intro ?_ ?_ | intro _
  all_goals try simp only [post_X6_replace, ans_X6_replace, eff_X6_replace, eff_X4_set, Nat.reduceAdd, pc_1, pc_06, ib14, rb14, sp06]
  all_goals repeat' split
  all_goals first | rfl | omega | (exfalso; omega)
set_option maxHeartbeats 1000000 in
theorem v_X6_delete (x1 x2 : Int) (σ : St) (hp : pre_X6_delete x1 x2 σ) : V_X6_delete x1 x2 σ (post_X6_delete x1 x2 σ) := by
  simp only [pre_X6_delete, pre_X1_save] at hp
  unfold V_X6_delete
  try simp only [pre_X1_save, pre_X5_removeBytes, pre_X5_textSize, ans_X5_textSize, pre_X6_fail, ans_X6_fail, pre_X6_isInText, ans_X6_isInText, pre_X6_prepareChange, forall_eq, b01, b01R, Nat.reduceAdd, pc_1, pc_06, ib14, rb14, sp06]
  repeat' first | exact trivial | refine And.intro ?_ ?_ | intro _
  all_goals try simp only [post_X6_delete, ans_X6_delete, eff_X6_delete, eff_X4_set, Nat.reduceAdd, pc_1, pc_06, ib14, rb14, sp06]
  all_goals repeat' split
  all_goals first | rfl | omega | (exfalso; omega)
set_option maxHeartbeats 1000000 in
theorem v_X6_define (x1 : Int) (σ : St) (hp : pre_X6_define x1 σ) : V_X6_define x1 σ (post_X6_define x1 σ) := by
  simp only [pre_X6_define, pre_X1_save] at hp
  unfold V_X6_define
  try simp only [pre_X1_save, pre_X4_get, ans_X4_get, pre_X5_setPattern, pre_X6_canStartPattern, ans_X6_canStartPattern, pre_X6_fail, ans_X6_fail, pre_X6_isRule, ans_X6_isRule, pre_X6_prepareChange, forall_eq, b01, b01R, Nat.reduceAdd, pc_1, pc_06, ib14, rb14, sp06]
  repeat' first | exact trivial | refine And.intro ?_ ?_ | intro _
  all_goals try simp only [post_X6_define, ans_X6_define, eff_X6_define, eff_X4_set, Nat.reduceAdd, pc_1, pc_06, ib14, rb14, sp06]
  all_goals repeat' split
  all_goals first | rfl | omega | (exfalso; omega)
set_option maxHeartbeats 1000000 in
theorem v_X6_undefine (x1 : Int) (σ : St) (hp : pre_X6_undefine x1 σ) : V_X6_undefine x1 σ (post_X6_undefine x1 σ) := by
  simp only [pre_X6_undefine, pre_X1_save] at hp
  unfold V_X6_undefine
  try simp only [pre_X1_save, pre_X5_patternSize, ans_X5_patternSize, pre_X5_setPattern, pre_X6_fail, ans_X6_fail, pre_X6_isRule, ans_X6_isRule, pre_X6_prepareChange, forall_eq, b01, b01R, Nat.reduceAdd, pc_1, pc_06, ib14, rb14, sp06]
  repeat' first | exact trivial | refine And.intro ?_ ?_ | intro _
  all_goals try simp only [post_X6_undefine, ans_X6_undefine, eff_X6_undefine, eff_X4_set, Nat.reduceAdd, pc_1, pc_06, ib14, rb14, sp06]
  all_goals repeat' split
  all_goals first | rfl | omega | (exfalso; omega)
set_option maxHeartbeats 1000000 in
theorem v_X6_setStop (x1 x2 : Int) (σ : St) (hp : pre_X6_setStop x1 x2 σ) : V_X6_setStop x1 x2 σ (post_X6_setStop x1 x2 σ) := by
  simp only [pre_X6_setStop, pre_X1_save] at hp
  unfold V_X6_setStop
  try simp only [pre_X1_save, pre_X5_putStop, pre_X5_stopOf, ans_X5_stopOf, pre_X6_fail, ans_X6_fail, pre_X6_isByte, ans_X6_isByte, pre_X6_isRule, ans_X6_isRule, pre_X6_prepareChange, forall_eq, b01, b01R, Nat.reduceAdd, pc_1, pc_06, ib14, rb14, sp06]
  repeat' first | exact trivial | refine And.intro ?_ ?_ | intro _
  all_goals try simp only [post_X6_setStop, ans_X6_setStop, eff_X6_setStop, eff_X4_set, Nat.reduceAdd, pc_1, pc_06, ib14, rb14, sp06]
  all_goals repeat' split
  all_goals first | rfl | omega | (exfalso; omega)
set_option maxHeartbeats 1000000 in
theorem v_X6_undo (σ : St) (hp : pre_X6_undo σ) : V_X6_undo σ (post_X6_undo σ) := by
  simp only [pre_X6_undo, pre_X1_save] at hp
  have h7 : ¬ σ 10 2 = 0 → up (eff_X1_restore σ) 0 7 1 10 2 = σ 10 2 - 1 := fun h => by rw [up_n _ _ _ (by decide)]; exact rs102 σ (by omega)
  unfold V_X6_undo
  try simp only [pre_X1_restore, pre_X1_save, pre_X1_savedCount, ans_X1_savedCount, pre_X1_slotAt, ans_X1_slotAt, pre_X5_copyFrom, pre_X6_fail, ans_X6_fail, forall_eq, b01, b01R, Nat.reduceAdd, pc_1, pc_06, ib14, rb14, sp06]
  repeat' first | exact trivial | refine And.intro ?_ ?_ | intro _
  all_goals try simp only [post_X6_undo, ans_X6_undo, eff_X6_undo, eff_X4_set, Nat.reduceAdd, pc_1, pc_06, ib14, rb14, sp06]
  all_goals repeat' split
  all_goals first | rfl | omega | (exfalso; omega) | exact (h7 (by omega))
