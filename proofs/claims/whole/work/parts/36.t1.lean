theorem tget_nn {σ : St} {r i p : Int} (h : 0 ≤ p) : tget σ r i p = ct σ r i p := if_pos h
theorem tget_b {σ : St} (h : MB σ) (r i p : Int) : -1 ≤ tget σ r i p ∧ tget σ r i p ≤ 100 := by
  unfold tget
  split
  · exact h.2.2.2 _
  · exact ⟨by decide, by decide⟩
theorem v_X2_markRuns (x1 : Int) (σ : St) (hp : pre_X2_markRuns x1 σ) : V_X2_markRuns x1 σ (post_X2_markRuns x1 σ) := by
  obtain ⟨p0, p1, t0, t1, hM, ht⟩ := hp
  have hv : inR (ans_X5_textAt x1 σ) := by
    unfold ans_X5_textAt
    split
    · next h => exact ht h
    · exact ⟨by decide, by decide⟩
  have h54 := hM.1 (x1 + 1)
  have h56 := hM.2.1 (x1 + 1)
  have es : ∀ (τ : St) (v : Int), eff_X4_set 53 101 x1 v τ = up τ 54 x1 v := fun τ v => if_pos (by omega)
  have es2 : ∀ (τ : St) (v : Int), eff_X4_set 55 101 x1 v τ = up τ 56 x1 v := fun τ v => if_pos (by omega)
  have er : ∀ u : Int, ans_X2_runEnd 55 101 x1 (up σ 54 x1 u) = ans_X2_runEnd 55 101 x1 σ := fun u => by
    unfold ans_X2_runEnd
    rw [up_n _ _ _ (by decide)]
  have e3 : ∀ u : Int, up σ 54 x1 u 56 = σ 56 := fun u => up_n _ _ _ (by decide)
  unfold V_X2_markRuns
  simp only [pre_X5_textAt, pre_X6_isDigit, ans_X6_isDigit, pre_X4_set, pre_X6_isLetter, ans_X6_isLetter, pre_X2_runEnd, forall_eq, b01, b01R, es, es2, er, Nat.reduceAdd, e3]
  repeat' first | exact trivial | refine And.intro ?_ ?_ | intro _
  all_goals try simp only [post_X2_markRuns, eff_X2_markRuns]
  all_goals repeat' split
  all_goals first | rfl | omega | (exfalso; omega)
theorem v_X2_waterRestEnd (x1 x2 x3 : Int) (σ : St) (hp : pre_X2_waterRestEnd x1 x2 x3 σ) : V_X2_waterRestEnd x1 x2 x3 σ (post_X2_waterRestEnd x1 x2 x3 σ) := by
  obtain ⟨p0, p1, p2, p3, p4, p5, t0, t1, hM, ht, hs⟩ := hp
  have e1 : ans_X0_get x1 (x2 + 1) x3 σ = ct σ x1 (x2 + 1) x3 := if_pos p4
  have e2 : ans_X4_get 57 101 x3 σ = σ 58 x3 := if_pos (by omega)
  have e3 : ∀ r, ans_X0_get r 0 x3 σ = ct σ r 0 x3 := fun r => if_pos p4
  have e4 : ans_X0_get x1 x2 (x3 + 1) σ = ct σ x1 x2 (x3 + 1) := if_pos (by omega)
  have b1 := hM.2.2.2 ((x1 * 9 + (x2 + 1)) * 101 + x3)
  have b2 := hM.2.2.1 x3
  have b3 := hM.2.2.2 ((σ 58 x3 * 9 + 0) * 101 + x3)
  have b1 : -1 ≤ ct σ x1 (x2 + 1) x3 ∧ ct σ x1 (x2 + 1) x3 ≤ 100 := b1
  have b3 : -1 ≤ ct σ (σ 58 x3) 0 x3 ∧ ct σ (σ 58 x3) 0 x3 ≤ 100 := b3
  unfold V_X2_waterRestEnd
  simp only [pre_X0_get, pre_X4_get, pre_X5_textAt, ans_X5_textAt, pre_X5_stopOf, ans_X5_stopOf, forall_eq, e1, e2, e3, e4]
  repeat' first | exact trivial | refine And.intro ?_ ?_ | intro _
  all_goals try simp only [post_X2_waterRestEnd, ans_X2_waterRestEnd, ans_X0_get]
  all_goals try simp only [inR]
  all_goals repeat' split
  all_goals first | rfl | omega | (exfalso; omega) | (refine And.intro ?_ ?_ <;> omega)
