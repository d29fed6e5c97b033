-- the calls that change the text, the rules, the buffer, or only read them: class and reference answer alike and keep the invariant
def GT (s : St) : Prop := (0 ≤ s 1 4 ∧ s 1 4 ≤ 100) ∧ s 81 0 = s 1 4 ∧ ∀ p, 0 ≤ p → p < s 1 4 → (32 ≤ s 3 p ∧ s 3 p ≤ 126) ∧ s 81 (1 + p) = s 3 p
def GR (s : St) (r : Int) : Prop := ((0 ≤ s 5 r ∧ s 5 r ≤ 8) ∧ s 81 (101 + r) = s 5 r) ∧ ((s 9 r = -1 ∨ (32 ≤ s 9 r ∧ s 9 r ≤ 126)) ∧ s 81 (155 + r) = s 9 r) ∧ (∀ i, 0 ≤ i → i < s 5 r → (32 ≤ s 7 (r * 8 + i) ∧ s 7 (r * 8 + i) ≤ 126) ∧ s 81 (107 + 8 * r + i) = s 7 (r * 8 + i)) ∧ (0 < s 5 r → s 7 (r * 8 + 0) ≠ 126 ∧ ¬ (65 ≤ s 7 (r * 8 + 0) ∧ s 7 (r * 8 + 0) ≤ 70))
theorem IG_of {s : St} (h : GT s) (g : ∀ r, 0 ≤ r → r < 6 → GR s r) : WFc s 1 ∧ SMc s 1 (s 81) 0 := by
  refine ⟨⟨h.1, fun p a b => (h.2.2 p a b).1, fun r a b => ⟨(g r a b).1.1, (g r a b).2.1.1, fun i c d => ((g r a b).2.2.1 i c d).1, (g r a b).2.2.2⟩⟩, h.2.1, fun p a b => ?_, fun r a b => ⟨?_, ?_, fun i c d => ?_⟩⟩
  · rw [show (0 : Int) + 1 + p = 1 + p by omega]
    exact (h.2.2 p a b).2
  · rw [show (0 : Int) + 101 + r = 101 + r by omega]
    exact (g r a b).1.2
  · rw [show (0 : Int) + 155 + r = 155 + r by omega]
    exact (g r a b).2.1.2
  · rw [show (0 : Int) + 107 + 8 * r + i = 107 + 8 * r + i by omega]
    exact ((g r a b).2.2.1 i c d).2
theorem Inv.GT {k : Nat} {σ : St} (h : Inv k σ) : GT σ := ⟨h.L, h.L8, fun p a b => ⟨h.1.1.2.1 p a b, h.T8 a b⟩⟩
theorem Inv.GR {k : Nat} {σ : St} (h : Inv k σ) {r : Int} (a : 0 ≤ r) (b : r < 6) : GR σ r := by
  obtain ⟨g1, g2, g3, g4⟩ := h.1.1.2.2 r a b
  obtain ⟨f1, f2, f3⟩ := h.S8 a b
  exact ⟨⟨g1, f1⟩, ⟨g2, f2⟩, fun i c d => ⟨g3 i c d, f3 i c d⟩, g4⟩
theorem GR_c {σ s : St} {r : Int} (h5 : s 5 r = σ 5 r) (h9 : s 9 r = σ 9 r) (h7 : ∀ i, 0 ≤ i → i < 8 → s 7 (r * 8 + i) = σ 7 (r * 8 + i)) (m5 : s 81 (101 + r) = σ 81 (101 + r)) (m9 : s 81 (155 + r) = σ 81 (155 + r)) (m7 : ∀ i, 0 ≤ i → i < 8 → s 81 (107 + 8 * r + i) = σ 81 (107 + 8 * r + i)) (g : GR σ r) : GR s r := by
  obtain ⟨g1, g2, g3, g4⟩ := g
  have := g1.1
  refine ⟨by rw [h5, m5]; exact g1, by rw [h9, m9]; exact g2, fun i c d => ?_, fun c => ?_⟩
  · rw [h5] at d
    rw [h7 i c (by omega), m7 i c (by omega)]
    exact g3 i c d
  · rw [h5] at c
    rw [h7 0 (by decide) (by decide)]
    exact g4 c
theorem GT_c {σ s : St} (h1 : s 1 4 = σ 1 4) (h3 : ∀ p, 0 ≤ p → p < 100 → s 3 p = σ 3 p) (m0 : s 81 0 = σ 81 0) (m : ∀ p, 0 ≤ p → p < 100 → s 81 (1 + p) = σ 81 (1 + p)) (g : GT σ) : GT s := by
  obtain ⟨g1, g2, g3⟩ := g
  refine ⟨by rw [h1]; exact g1, by rw [m0, h1]; exact g2, fun p a b => ?_⟩
  rw [h1] at b
  rw [h3 p a (by omega), m p a (by omega)]
  exact g3 p a b
theorem prep_hi {σ : St} (h : pre_X1_save σ) {q : Nat} (a : 49 ≤ q ∨ (1 ≤ q ∧ q ≤ 9)) : eff_X6_prepareChange σ q = σ q := by
  have := h.2.1
  exact (saveC σ h).1 q (by omega) (by omega) (by omega)
theorem st_insert {k : Nat} {σ : St} {a b : Int} (h : Inv k σ) (ia : inR a) (ib : inR b) : pre_X6_insert a b σ ∧ ∀ r s1, post_X6_insert a b σ r s1 → pre_X7_insert a b s1 ∧ ∀ r' s2, post_X7_insert a b s1 r' s2 → r' = r ∧ Inv (k + 1) s2 := by
  refine ⟨⟨ia, ib, h.L.1, h.L.2, h.sv⟩, fun r s1 hp => ?_⟩
  obtain ⟨er, es⟩ := hp
  have hL := h.L
  have h8 := h.L8
  have h80 := h.m80
  unfold ans_X6_insert at er
  unfold eff_X6_insert at es
  by_cases v : 0 ≤ a ∧ a ≤ σ 1 4 ∧ 32 ≤ b ∧ b ≤ 126
  · rw [if_neg (fun z => z v)] at er es
    by_cases f : 100 ≤ σ 1 4
    · rw [if_pos f] at er es
      obtain ⟨f1, f2, -, -⟩ := fail_81 (-4) σ
      rw [← es] at f1 f2
      refine ⟨⟨ia, ib, by rw [f1, h8]; exact hL.1, by rw [f1, h8]; exact hL.2, by rw [f2]; exact h80.1, by rw [f2]; exact h80.2⟩, fun r' s2 hq => ?_⟩
      obtain ⟨er', es'⟩ := hq
      unfold ans_X7_insert at er'
      unfold eff_X7_insert at es'
      rw [f1, h8, if_neg (fun z => z v), if_pos f] at er' es'
      exact ⟨er'.trans er.symm, by rw [es', es]; exact h.fail ⟨by decide, by decide⟩⟩
    · rw [if_neg f] at er es
      have r1 : ∀ q, ¬ (1 ≤ q ∧ q ≤ 9) → s1 q = eff_X6_prepareChange σ q := fun q c => by
        rw [es]
        unfold eff_X5_insertByte
        rw [up_n _ _ _ (by omega), ur_n _ _ (by omega)]
      have p := fun q c => prep_hi (σ := σ) h.sv (q := q) c
      have k81 : s1 81 = σ 81 := by rw [r1 81 (by decide), p 81 (by decide)]
      have k80 : s1 80 = σ 80 := by rw [r1 80 (by decide), p 80 (by decide)]
      refine ⟨⟨ia, ib, by rw [k81, h8]; exact hL.1, by rw [k81, h8]; exact hL.2, by rw [k80]; exact h80.1, by rw [k80]; exact h80.2⟩, fun r' s2 hq => ?_⟩
      obtain ⟨er', es'⟩ := hq
      unfold ans_X7_insert at er'
      unfold eff_X7_insert at es'
      rw [k81, h8, if_neg (fun z => z v), if_neg f] at er' es'
      have hM : ∀ q, q ≠ 81 → s2 q = eff_X7_save s1 q := fun q c => by rw [es', ur_n _ _ c]
      have m1 := (saveM s1).1
      have lo : ∀ q, 1 ≤ q → q ≤ 9 → s2 q = s1 q := fun q c d => by rw [hM q (by omega), m1 q (by omega) (by omega)]
      have lo2 : ∀ q, 1 ≤ q → q ≤ 9 → q ≠ 1 → q ≠ 3 → s2 q = σ q := fun q c d e1 e3 => by
        rw [lo q c d, es]
        unfold eff_X5_insertByte
        rw [up_n _ _ _ e1, ur_n _ _ e3, p q (Or.inr ⟨c, d⟩)]
      have x1 : s2 1 4 = σ 1 4 + 1 := by
        rw [lo 1 (by decide) (by decide), es]
        unfold eff_X5_insertByte
        rw [up_s, ui_s, p 1 (by decide)]
      have x3 : ∀ j, s2 3 j = if j = a then b else if a < j ∧ j ≤ σ 1 4 then σ 3 (j - 1) else σ 3 j := fun j => by
        rw [lo 3 (by decide) (by decide), es]
        unfold eff_X5_insertByte
        rw [up_n _ _ _ (by decide), ur_s, p 1 (by decide), p 3 (by decide)]
      have x81 : ∀ j, s2 81 j = if j = 0 then σ 1 4 + 1 else if j = 1 + a then b else if 1 + a < j ∧ j ≤ 1 + σ 1 4 then σ 81 (j - 1) else σ 81 j := fun j => by
        rw [es', ur_s]
      obtain ⟨g1, g2, g3⟩ := h.GT
      refine ⟨er'.trans er.symm, h.edit r1 hM (IG_of ⟨by rw [x1]; omega, by rw [x81, if_pos rfl, x1], fun q c d => ?_⟩ (fun r c d => ?_))⟩
      · rw [x1] at d
        have w81 : s2 81 (1 + q) = if 1 + q = 1 + a then b else if 1 + a < 1 + q ∧ 1 + q ≤ 1 + σ 1 4 then σ 81 (1 + q - 1) else σ 81 (1 + q) := by rw [x81, if_neg (show ¬ 1 + q = 0 by omega)]
        rw [x3, w81]
        by_cases e : q = a
        · rw [if_pos e, if_pos (show 1 + q = 1 + a by omega)]
          exact ⟨v.2.2, rfl⟩
        · rw [if_neg e, if_neg (show ¬ 1 + q = 1 + a by omega)]
          by_cases e2 : a < q
          · rw [if_pos (show a < q ∧ q ≤ σ 1 4 from ⟨e2, by omega⟩), if_pos (show 1 + a < 1 + q ∧ 1 + q ≤ 1 + σ 1 4 from ⟨by omega, by omega⟩)]
            obtain ⟨y1, y2⟩ := g3 (q - 1) (by omega) (by omega)
            refine ⟨y1, ?_⟩
            rw [← y2]
            exact congrArg (σ 81) (by omega)
          · rw [if_neg (show ¬ (a < q ∧ q ≤ σ 1 4) by omega), if_neg (show ¬ (1 + a < 1 + q ∧ 1 + q ≤ 1 + σ 1 4) by omega)]
            exact g3 q c (by omega)
      · refine GR_c (by rw [lo2 5 (by decide) (by decide) (by decide) (by decide)]) (by rw [lo2 9 (by decide) (by decide) (by decide) (by decide)]) (fun i _ _ => by rw [lo2 7 (by decide) (by decide) (by decide) (by decide)]) ?_ ?_ (fun i y z => ?_) (h.GR c d)
        · rw [x81, if_neg (by omega), if_neg (by omega), if_neg (by omega)]
        · rw [x81, if_neg (by omega), if_neg (by omega), if_neg (by omega)]
        · rw [x81, if_neg (by omega), if_neg (by omega), if_neg (by omega)]
  · rw [if_pos v] at er es
    obtain ⟨f1, f2, -, -⟩ := fail_81 (-2) σ
    rw [← es] at f1 f2
    refine ⟨⟨ia, ib, by rw [f1, h8]; exact hL.1, by rw [f1, h8]; exact hL.2, by rw [f2]; exact h80.1, by rw [f2]; exact h80.2⟩, fun r' s2 hq => ?_⟩
    obtain ⟨er', es'⟩ := hq
    unfold ans_X7_insert at er'
    unfold eff_X7_insert at es'
    rw [f1, h8, if_pos v] at er' es'
    exact ⟨er'.trans er.symm, by rw [es', es]; exact h.fail ⟨by decide, by decide⟩⟩
theorem st_replace {k : Nat} {σ : St} {a b : Int} (h : Inv k σ) (ia : inR a) (ib : inR b) : pre_X6_replace a b σ ∧ ∀ r s1, post_X6_replace a b σ r s1 → pre_X7_replace a b s1 ∧ ∀ r' s2, post_X7_replace a b s1 r' s2 → r' = r ∧ Inv (k + 1) s2 := by
  refine ⟨⟨ia, ib, h.L.1, h.L.2, h.sv⟩, fun r s1 hp => ?_⟩
  obtain ⟨er, es⟩ := hp
  have hL := h.L
  have h8 := h.L8
  have h80 := h.m80
  unfold ans_X6_replace at er
  unfold eff_X6_replace at es
  by_cases v : 0 ≤ a ∧ a < σ 1 4 ∧ 32 ≤ b ∧ b ≤ 126
  · rw [if_neg (fun z => z v)] at er es
    have r1 : ∀ q, ¬ (1 ≤ q ∧ q ≤ 9) → s1 q = eff_X6_prepareChange σ q := fun q c => by
      rw [es]
      unfold eff_X5_setByte
      rw [up_n _ _ _ (by omega)]
    have p := fun q c => prep_hi (σ := σ) h.sv (q := q) c
    have k81 : s1 81 = σ 81 := by rw [r1 81 (by decide), p 81 (by decide)]
    have k80 : s1 80 = σ 80 := by rw [r1 80 (by decide), p 80 (by decide)]
    refine ⟨⟨ia, ib, by rw [k81, h8]; exact hL.1, by rw [k81, h8]; exact hL.2, by rw [k80]; exact h80.1, by rw [k80]; exact h80.2⟩, fun r' s2 hq => ?_⟩
    obtain ⟨er', es'⟩ := hq
    unfold ans_X7_replace at er'
    unfold eff_X7_replace at es'
    rw [k81, h8, if_neg (fun z => z v)] at er'
    rw [k81, h8, if_neg (fun z => z v)] at es'
    have hM : ∀ q, q ≠ 81 → s2 q = eff_X7_save s1 q := fun q c => by rw [es', up_n _ _ _ c]
    have m1 := (saveM s1).1
    have lo : ∀ q, 1 ≤ q → q ≤ 9 → s2 q = s1 q := fun q c d => by rw [hM q (by omega), m1 q (by omega) (by omega)]
    have lo2 : ∀ q, 1 ≤ q → q ≤ 9 → q ≠ 3 → s2 q = σ q := fun q c d e3 => by
      rw [lo q c d, es]
      unfold eff_X5_setByte
      rw [up_n _ _ _ e3, p q (Or.inr ⟨c, d⟩)]
    have x3 : s2 3 = ui (σ 3) a b := by
      rw [lo 3 (by decide) (by decide), es]
      unfold eff_X5_setByte
      rw [up_s, p 3 (by decide)]
    have x81 : s2 81 = ui (σ 81) (1 + a) b := by
      rw [es', up_s, m1 81 (by decide) (by decide), k81]
    obtain ⟨g1, g2, g3⟩ := h.GT
    have l1 := lo2 1 (by decide) (by decide) (by decide)
    refine ⟨er'.trans ((h.T8 v.1 v.2.1).trans er.symm), h.edit r1 hM (IG_of ⟨by rw [l1]; exact g1, by rw [x81, ui_n _ _ (by omega), l1]; exact g2, fun q c d => ?_⟩ (fun r c d => ?_))⟩
    · rw [l1] at d
      rw [x3, x81]
      by_cases e : q = a
      · subst e
        rw [ui_s, ui_s]
        exact ⟨v.2.2, rfl⟩
      · rw [ui_n _ _ e, ui_n _ _ (by omega)]
        exact g3 q c d
    · refine GR_c (by rw [lo2 5 (by decide) (by decide) (by decide)]) (by rw [lo2 9 (by decide) (by decide) (by decide)]) (fun i _ _ => by rw [lo2 7 (by decide) (by decide) (by decide)]) ?_ ?_ (fun i y z => ?_) (h.GR c d)
      · rw [x81, ui_n _ _ (by omega)]
      · rw [x81, ui_n _ _ (by omega)]
      · rw [x81, ui_n _ _ (by omega)]
  · rw [if_pos v] at er es
    obtain ⟨f1, f2, -, -⟩ := fail_81 (-2) σ
    rw [← es] at f1 f2
    refine ⟨⟨ia, ib, by rw [f1, h8]; exact hL.1, by rw [f1, h8]; exact hL.2, by rw [f2]; exact h80.1, by rw [f2]; exact h80.2⟩, fun r' s2 hq => ?_⟩
    obtain ⟨er', es'⟩ := hq
    unfold ans_X7_replace at er'
    unfold eff_X7_replace at es'
    rw [f1, h8, if_pos v] at er'
    rw [f1, h8, if_pos v] at es'
    exact ⟨er'.trans er.symm, by rw [es', es]; exact h.fail ⟨by decide, by decide⟩⟩
theorem st_delete {k : Nat} {σ : St} {a b : Int} (h : Inv k σ) (ia : inR a) (ib : inR b) : pre_X6_delete a b σ ∧ ∀ r s1, post_X6_delete a b σ r s1 → pre_X7_delete a b s1 ∧ ∀ r' s2, post_X7_delete a b s1 r' s2 → r' = r ∧ Inv (k + 1) s2 := by
  refine ⟨⟨ia, ib, h.L.1, h.L.2, h.sv⟩, fun r s1 hp => ?_⟩
  obtain ⟨er, es⟩ := hp
  have hL := h.L
  have h8 := h.L8
  have h80 := h.m80
  unfold ans_X6_delete at er
  unfold eff_X6_delete at es
  by_cases v : 0 ≤ a ∧ a < σ 1 4 ∧ 1 ≤ b ∧ b ≤ σ 1 4 - a
  · rw [if_neg (fun z => z v)] at er es
    have r1 : ∀ q, ¬ (1 ≤ q ∧ q ≤ 9) → s1 q = eff_X6_prepareChange σ q := fun q c => by
      rw [es]
      unfold eff_X5_removeBytes
      rw [ur_n _ _ (by omega), up_n _ _ _ (by omega)]
    have p := fun q c => prep_hi (σ := σ) h.sv (q := q) c
    have k81 : s1 81 = σ 81 := by rw [r1 81 (by decide), p 81 (by decide)]
    have k80 : s1 80 = σ 80 := by rw [r1 80 (by decide), p 80 (by decide)]
    refine ⟨⟨ia, ib, by rw [k81, h8]; exact hL.1, by rw [k81, h8]; exact hL.2, by rw [k80]; exact h80.1, by rw [k80]; exact h80.2⟩, fun r' s2 hq => ?_⟩
    obtain ⟨er', es'⟩ := hq
    unfold ans_X7_delete at er'
    unfold eff_X7_delete at es'
    rw [k81, h8, if_neg (fun z => z v)] at er' es'
    have hM : ∀ q, q ≠ 81 → s2 q = eff_X7_save s1 q := fun q c => by rw [es', ur_n _ _ c]
    have m1 := (saveM s1).1
    have lo : ∀ q, 1 ≤ q → q ≤ 9 → s2 q = s1 q := fun q c d => by rw [hM q (by omega), m1 q (by omega) (by omega)]
    have lo2 : ∀ q, 1 ≤ q → q ≤ 9 → q ≠ 1 → q ≠ 3 → s2 q = σ q := fun q c d e1 e3 => by
      rw [lo q c d, es]
      unfold eff_X5_removeBytes
      rw [ur_n _ _ e3, up_n _ _ _ e1, p q (Or.inr ⟨c, d⟩)]
    have x1 : s2 1 4 = σ 1 4 - b := by
      rw [lo 1 (by decide) (by decide), es]
      unfold eff_X5_removeBytes
      rw [ur_n _ _ (by decide), up_s, ui_s, p 1 (by decide)]
    have x3 : ∀ j, s2 3 j = if a ≤ j ∧ j < σ 1 4 - b then σ 3 (j + b) else σ 3 j := fun j => by
      rw [lo 3 (by decide) (by decide), es]
      unfold eff_X5_removeBytes
      rw [ur_s, p 1 (by decide), p 3 (by decide)]
    have x81 : ∀ j, s2 81 j = if j = 0 then σ 1 4 - b else if 1 + a ≤ j ∧ j < 1 + σ 1 4 - b then σ 81 (j + b) else σ 81 j := fun j => by
      rw [es', ur_s]
    obtain ⟨g1, g2, g3⟩ := h.GT
    refine ⟨er'.trans er.symm, h.edit r1 hM (IG_of ⟨by rw [x1]; omega, by rw [x81, if_pos rfl, x1], fun q c d => ?_⟩ (fun r c d => ?_))⟩
    · rw [x1] at d
      have w81 : s2 81 (1 + q) = if 1 + a ≤ 1 + q ∧ 1 + q < 1 + σ 1 4 - b then σ 81 (1 + q + b) else σ 81 (1 + q) := by rw [x81, if_neg (show ¬ 1 + q = 0 by omega)]
      rw [x3, w81]
      by_cases e : a ≤ q
      · rw [if_pos (show a ≤ q ∧ q < σ 1 4 - b from ⟨e, d⟩), if_pos (show 1 + a ≤ 1 + q ∧ 1 + q < 1 + σ 1 4 - b from ⟨by omega, by omega⟩)]
        obtain ⟨y1, y2⟩ := g3 (q + b) (by omega) (by omega)
        refine ⟨y1, ?_⟩
        rw [← y2]
        exact congrArg (σ 81) (by omega)
      · rw [if_neg (show ¬ (a ≤ q ∧ q < σ 1 4 - b) by omega), if_neg (show ¬ (1 + a ≤ 1 + q ∧ 1 + q < 1 + σ 1 4 - b) by omega)]
        exact g3 q c (by omega)
    · refine GR_c (by rw [lo2 5 (by decide) (by decide) (by decide) (by decide)]) (by rw [lo2 9 (by decide) (by decide) (by decide) (by decide)]) (fun i _ _ => by rw [lo2 7 (by decide) (by decide) (by decide) (by decide)]) ?_ ?_ (fun i y z => ?_) (h.GR c d)
      · rw [x81, if_neg (by omega), if_neg (by omega)]
      · rw [x81, if_neg (by omega), if_neg (by omega)]
      · rw [x81, if_neg (by omega), if_neg (by omega)]
  · rw [if_pos v] at er es
    obtain ⟨f1, f2, -, -⟩ := fail_81 (-2) σ
    rw [← es] at f1 f2
    refine ⟨⟨ia, ib, by rw [f1, h8]; exact hL.1, by rw [f1, h8]; exact hL.2, by rw [f2]; exact h80.1, by rw [f2]; exact h80.2⟩, fun r' s2 hq => ?_⟩
    obtain ⟨er', es'⟩ := hq
    unfold ans_X7_delete at er'
    unfold eff_X7_delete at es'
    rw [f1, h8, if_pos v] at er' es'
    exact ⟨er'.trans er.symm, by rw [es', es]; exact h.fail ⟨by decide, by decide⟩⟩
theorem st_define {k : Nat} {σ : St} {a : Int} (h : Inv k σ) (ia : inR a) : pre_X6_define a σ ∧ ∀ r s1, post_X6_define a σ r s1 → pre_X7_define a s1 ∧ ∀ r' s2, post_X7_define a s1 r' s2 → r' = r ∧ Inv (k + 1) s2 := by
  have hB := h.2.1
  obtain ⟨b1, b2, b3⟩ := hB
  obtain ⟨c1, c2, c3⟩ := b3 0 (by decide) (by decide)
  have h80 := h.m80
  refine ⟨⟨ia, b1.1, b1.2, ⟨by omega, by omega⟩, h.sv⟩, fun r s1 hp => ?_⟩
  obtain ⟨er, es⟩ := hp
  unfold ans_X6_define at er
  unfold eff_X6_define at es
  have hp : ∀ c : Int, s1 = eff_X6_fail c σ → pre_X7_define a s1 := fun c e => by
    obtain ⟨-, f2, f3, -⟩ := fail_81 c σ
    rw [← e] at f2 f3
    unfold pre_X7_define
    rw [f2, f3, b2, c1]
    exact ⟨ia, b1.1, b1.2, ⟨by omega, by omega⟩, h80⟩
  by_cases v : 0 ≤ a ∧ a < 6
  · rw [if_neg (fun z => z v)] at er es
    by_cases f : σ 0 6 = 0 ∨ (σ 49 0 = 126 ∨ (65 ≤ σ 49 0 ∧ σ 49 0 ≤ 70))
    · rw [if_pos f] at er es
      refine ⟨hp _ es, fun r' s2 hq => ?_⟩
      obtain ⟨-, f2, f3, -⟩ := fail_81 (-3) σ
      rw [← es] at f2 f3
      obtain ⟨er', es'⟩ := hq
      unfold ans_X7_define at er'
      unfold eff_X7_define at es'
      rw [f2, f3, b2, c1, if_neg (fun z => z v), if_pos f] at er' es'
      exact ⟨er'.trans er.symm, by rw [es', es]; exact h.fail ⟨by decide, by decide⟩⟩
    · rw [if_neg f] at er es
      have r1 : ∀ q, ¬ (1 ≤ q ∧ q ≤ 9) → s1 q = eff_X6_prepareChange σ q := fun q c => by
        rw [es]
        unfold eff_X5_setPattern
        rw [ur_n _ _ (by omega), up_n _ _ _ (by omega)]
      have p := fun q c => prep_hi (σ := σ) h.sv (q := q) c
      have k80 : s1 80 = σ 80 := by rw [r1 80 (by decide), p 80 (by decide)]
      have k81 : s1 81 = σ 81 := by rw [r1 81 (by decide), p 81 (by decide)]
      have k83 : s1 83 = σ 83 := by rw [r1 83 (by decide), p 83 (by decide)]
      refine ⟨?_, fun r' s2 hq => ?_⟩
      · unfold pre_X7_define
        rw [k80, k83, b2, c1]
        exact ⟨ia, b1.1, b1.2, ⟨by omega, by omega⟩, h80⟩
      obtain ⟨er', es'⟩ := hq
      unfold ans_X7_define at er'
      unfold eff_X7_define at es'
      rw [k80, k83, b2, c1, if_neg (fun z => z v), if_neg f] at er'
      rw [k80, k83, b2, c1, if_neg (fun z => z v), if_neg f] at es'
      have hM : ∀ q, q ≠ 81 → s2 q = eff_X7_save s1 q := fun q c => by rw [es', ur_n _ _ c]
      have m1 := (saveM s1).1
      have lo : ∀ q, 1 ≤ q → q ≤ 9 → s2 q = s1 q := fun q c d => by rw [hM q (by omega), m1 q (by omega) (by omega)]
      have lo2 : ∀ q, 1 ≤ q → q ≤ 9 → q ≠ 5 → q ≠ 7 → s2 q = σ q := fun q c d e5 e7 => by
        rw [lo q c d, es]
        unfold eff_X5_setPattern
        rw [ur_n _ _ e7, up_n _ _ _ e5, p q (Or.inr ⟨c, d⟩)]
      have x5 : s2 5 = ui (σ 5) a (σ 0 6) := by
        rw [lo 5 (by decide) (by decide), es]
        unfold eff_X5_setPattern
        rw [ur_n _ _ (by decide), up_s, p 5 (by decide)]
      have x7 : ∀ j, s2 7 j = if a * 8 ≤ j ∧ j < a * 8 + σ 0 6 then σ 49 (j - a * 8) else σ 7 j := fun j => by
        rw [lo 7 (by decide) (by decide), es]
        unfold eff_X5_setPattern
        rw [ur_s, p 49 (by decide), p 7 (by decide)]
      have x81 : ∀ j, s2 81 j = if j = 101 + a then σ 0 6 else if 107 + 8 * a ≤ j ∧ j < 107 + 8 * a + σ 0 6 then σ 83 (j - (107 + 8 * a)) else σ 81 j := fun j => by
        rw [es', ur_s, k81]
      refine ⟨er'.trans er.symm, h.edit r1 hM (IG_of (GT_c (by rw [lo2 1 (by decide) (by decide) (by decide) (by decide)]) (fun q _ _ => by rw [lo2 3 (by decide) (by decide) (by decide) (by decide)]) (by rw [x81, if_neg (by omega), if_neg (by omega)]) (fun q y z => by rw [x81, if_neg (by omega), if_neg (by omega)]) h.GT) (fun r c d => ?_))⟩
      have l9 := lo2 9 (by decide) (by decide) (by decide) (by decide)
      by_cases e : r = a
      · subst e
        have g2 := (h.GR c d).2.1
        refine ⟨⟨by rw [x5, ui_s]; exact b1, by rw [x81, if_pos rfl, x5, ui_s]⟩, ⟨by rw [l9]; exact g2.1, by rw [x81, if_neg (by omega), if_neg (by omega), l9]; exact g2.2⟩, fun i y z => ?_, fun y => ?_⟩
        · rw [x5, ui_s] at z
          obtain ⟨d1, d2, d3⟩ := b3 i y (by omega)
          rw [x7, if_pos ⟨by omega, by omega⟩, x81, if_neg (by omega), if_pos ⟨by omega, by omega⟩, show r * 8 + i - r * 8 = i by omega, show 107 + 8 * r + i - (107 + 8 * r) = i by omega]
          exact ⟨⟨d3 z, d2.2⟩, d1⟩
        · rw [x5, ui_s] at y
          rw [x7, if_pos ⟨by omega, by omega⟩, show r * 8 + 0 - r * 8 = 0 by omega]
          exact ⟨fun z => f (Or.inr (Or.inl z)), fun z => f (Or.inr (Or.inr z))⟩
      · refine GR_c (by rw [x5, ui_n _ _ e]) (by rw [l9]) (fun i y z => by rw [x7, if_neg (by omega)]) ?_ ?_ (fun i y z => ?_) (h.GR c d)
        · rw [x81, if_neg (by omega), if_neg (by omega)]
        · rw [x81, if_neg (by omega), if_neg (by omega)]
        · rw [x81, if_neg (by omega), if_neg (by omega)]
  · rw [if_pos v] at er es
    refine ⟨hp _ es, fun r' s2 hq => ?_⟩
    obtain ⟨er', es'⟩ := hq
    unfold ans_X7_define at er'
    unfold eff_X7_define at es'
    rw [if_pos v] at er' es'
    exact ⟨er'.trans er.symm, by rw [es', es]; exact h.fail ⟨by decide, by decide⟩⟩
theorem st_undefine {k : Nat} {σ : St} {a : Int} (h : Inv k σ) (ia : inR a) : pre_X6_undefine a σ ∧ ∀ r s1, post_X6_undefine a σ r s1 → pre_X7_undefine a s1 ∧ ∀ r' s2, post_X7_undefine a s1 r' s2 → r' = r ∧ Inv (k + 1) s2 := by
  have h80 := h.m80
  refine ⟨⟨ia, h.sv⟩, fun r s1 hp => ?_⟩
  obtain ⟨er, es⟩ := hp
  unfold ans_X6_undefine at er
  unfold eff_X6_undefine at es
  by_cases v : 0 ≤ a ∧ a < 6
  · rw [if_neg (fun z => z v)] at er es
    have r1 : ∀ q, ¬ (1 ≤ q ∧ q ≤ 9) → s1 q = eff_X6_prepareChange σ q := fun q c => by
      rw [es]
      unfold eff_X5_setPattern
      rw [ur_n _ _ (by omega), up_n _ _ _ (by omega)]
    have p := fun q c => prep_hi (σ := σ) h.sv (q := q) c
    have k80 : s1 80 = σ 80 := by rw [r1 80 (by decide), p 80 (by decide)]
    have k81 : s1 81 = σ 81 := by rw [r1 81 (by decide), p 81 (by decide)]
    refine ⟨⟨ia, by rw [k80]; exact h80⟩, fun r' s2 hq => ?_⟩
    obtain ⟨er', es'⟩ := hq
    unfold ans_X7_undefine at er'
    unfold eff_X7_undefine at es'
    rw [k81, if_neg (fun z => z v)] at er'
    rw [if_neg (fun z => z v)] at es'
    have hM : ∀ q, q ≠ 81 → s2 q = eff_X7_save s1 q := fun q c => by rw [es', up_n _ _ _ c]
    have m1 := (saveM s1).1
    have lo : ∀ q, 1 ≤ q → q ≤ 9 → s2 q = s1 q := fun q c d => by rw [hM q (by omega), m1 q (by omega) (by omega)]
    have lo2 : ∀ q, 1 ≤ q → q ≤ 9 → q ≠ 5 → q ≠ 7 → s2 q = σ q := fun q c d e5 e7 => by
      rw [lo q c d, es]
      unfold eff_X5_setPattern
      rw [ur_n _ _ e7, up_n _ _ _ e5, p q (Or.inr ⟨c, d⟩)]
    have x5 : s2 5 = ui (σ 5) a 0 := by
      rw [lo 5 (by decide) (by decide), es]
      unfold eff_X5_setPattern
      rw [ur_n _ _ (by decide), up_s, p 5 (by decide)]
    have x7 : ∀ j, s2 7 j = σ 7 j := fun j => by
      rw [lo 7 (by decide) (by decide), es]
      unfold eff_X5_setPattern
      rw [ur_s, p 7 (by decide)]
      exact if_neg (by omega)
    have x81 : s2 81 = ui (σ 81) (101 + a) 0 := by
      rw [es', up_s, m1 81 (by decide) (by decide), k81]
    have l9 := lo2 9 (by decide) (by decide) (by decide) (by decide)
    refine ⟨er'.trans ((h.S8 v.1 v.2).1.trans er.symm), h.edit r1 hM (IG_of (GT_c (by rw [lo2 1 (by decide) (by decide) (by decide) (by decide)]) (fun q _ _ => by rw [lo2 3 (by decide) (by decide) (by decide) (by decide)]) (by rw [x81, ui_n _ _ (by omega)]) (fun q y z => by rw [x81, ui_n _ _ (by omega)]) h.GT) (fun r c d => ?_))⟩
    by_cases e : r = a
    · subst e
      have g2 := (h.GR c d).2.1
      refine ⟨⟨by rw [x5, ui_s]; exact ⟨by decide, by decide⟩, by rw [x81, ui_s, x5, ui_s]⟩, ⟨by rw [l9]; exact g2.1, by rw [x81, ui_n _ _ (by omega), l9]; exact g2.2⟩, fun i y z => ?_, fun y => ?_⟩
      · rw [x5, ui_s] at z
        omega
      · rw [x5, ui_s] at y
        omega
    · refine GR_c (by rw [x5, ui_n _ _ e]) (by rw [l9]) (fun i y z => x7 _) ?_ ?_ (fun i y z => ?_) (h.GR c d)
      · rw [x81, ui_n _ _ (by omega)]
      · rw [x81, ui_n _ _ (by omega)]
      · rw [x81, ui_n _ _ (by omega)]
  · rw [if_pos v] at er es
    obtain ⟨f1, f2, -, -⟩ := fail_81 (-2) σ
    rw [← es] at f1 f2
    refine ⟨⟨ia, by rw [f2]; exact h80⟩, fun r' s2 hq => ?_⟩
    obtain ⟨er', es'⟩ := hq
    unfold ans_X7_undefine at er'
    unfold eff_X7_undefine at es'
    rw [if_pos v] at er' es'
    exact ⟨er'.trans er.symm, by rw [es', es]; exact h.fail ⟨by decide, by decide⟩⟩
theorem st_setStop {k : Nat} {σ : St} {a b : Int} (h : Inv k σ) (ia : inR a) (ib : inR b) : pre_X6_setStop a b σ ∧ ∀ r s1, post_X6_setStop a b σ r s1 → pre_X7_setStop a b s1 ∧ ∀ r' s2, post_X7_setStop a b s1 r' s2 → r' = r ∧ Inv (k + 1) s2 := by
  have h80 := h.m80
  refine ⟨⟨ia, ib, h.sv⟩, fun r s1 hp => ?_⟩
  obtain ⟨er, es⟩ := hp
  unfold ans_X6_setStop at er
  unfold eff_X6_setStop at es
  by_cases v : 0 ≤ a ∧ a < 6 ∧ (b = -1 ∨ (32 ≤ b ∧ b ≤ 126))
  · rw [if_neg (fun z => z v)] at er es
    have r1 : ∀ q, ¬ (1 ≤ q ∧ q ≤ 9) → s1 q = eff_X6_prepareChange σ q := fun q c => by
      rw [es]
      unfold eff_X5_putStop
      rw [up_n _ _ _ (by omega)]
    have p := fun q c => prep_hi (σ := σ) h.sv (q := q) c
    have k80 : s1 80 = σ 80 := by rw [r1 80 (by decide), p 80 (by decide)]
    have k81 : s1 81 = σ 81 := by rw [r1 81 (by decide), p 81 (by decide)]
    refine ⟨⟨ia, ib, by rw [k80]; exact h80⟩, fun r' s2 hq => ?_⟩
    obtain ⟨er', es'⟩ := hq
    unfold ans_X7_setStop at er'
    unfold eff_X7_setStop at es'
    rw [k81, if_neg (fun z => z v)] at er'
    rw [if_neg (fun z => z v)] at es'
    have hM : ∀ q, q ≠ 81 → s2 q = eff_X7_save s1 q := fun q c => by rw [es', up_n _ _ _ c]
    have m1 := (saveM s1).1
    have lo : ∀ q, 1 ≤ q → q ≤ 9 → s2 q = s1 q := fun q c d => by rw [hM q (by omega), m1 q (by omega) (by omega)]
    have lo2 : ∀ q, 1 ≤ q → q ≤ 9 → q ≠ 9 → s2 q = σ q := fun q c d e9 => by
      rw [lo q c d, es]
      unfold eff_X5_putStop
      rw [up_n _ _ _ e9, p q (Or.inr ⟨c, d⟩)]
    have x9 : s2 9 = ui (σ 9) a b := by
      rw [lo 9 (by decide) (by decide), es]
      unfold eff_X5_putStop
      rw [up_s, p 9 (by decide)]
    have x81 : s2 81 = ui (σ 81) (155 + a) b := by
      rw [es', up_s, m1 81 (by decide) (by decide), k81]
    refine ⟨er'.trans ((h.S8 v.1 v.2.1).2.1.trans er.symm), h.edit r1 hM (IG_of (GT_c (by rw [lo2 1 (by decide) (by decide) (by decide)]) (fun q _ _ => by rw [lo2 3 (by decide) (by decide) (by decide)]) (by rw [x81, ui_n _ _ (by omega)]) (fun q y z => by rw [x81, ui_n _ _ (by omega)]) h.GT) (fun r c d => ?_))⟩
    have l5 := lo2 5 (by decide) (by decide) (by decide)
    have l7 := lo2 7 (by decide) (by decide) (by decide)
    by_cases e : r = a
    · subst e
      obtain ⟨g1, g2, g3, g4⟩ := h.GR c d
      have := g1.1
      refine ⟨⟨by rw [l5]; exact g1.1, by rw [x81, ui_n _ _ (by omega), l5]; exact g1.2⟩, ⟨by rw [x9, ui_s]; exact v.2.2, by rw [x81, ui_s, x9, ui_s]⟩, fun i y z => ?_, fun y => ?_⟩
      · rw [l5] at z
        rw [l7, x81, ui_n _ _ (by omega)]
        exact g3 i y z
      · rw [l5] at y
        rw [l7]
        exact g4 y
    · refine GR_c (by rw [l5]) (by rw [x9, ui_n _ _ e]) (fun i y z => by rw [l7]) ?_ ?_ (fun i y z => ?_) (h.GR c d)
      · rw [x81, ui_n _ _ (by omega)]
      · rw [x81, ui_n _ _ (by omega)]
      · rw [x81, ui_n _ _ (by omega)]
  · rw [if_pos v] at er es
    obtain ⟨f1, f2, -, -⟩ := fail_81 (-2) σ
    rw [← es] at f1 f2
    refine ⟨⟨ia, ib, by rw [f2]; exact h80⟩, fun r' s2 hq => ?_⟩
    obtain ⟨er', es'⟩ := hq
    unfold ans_X7_setStop at er'
    unfold eff_X7_setStop at es'
    rw [if_pos v] at er' es'
    exact ⟨er'.trans er.symm, by rw [es', es]; exact h.fail ⟨by decide, by decide⟩⟩
theorem st_length {k : Nat} {σ : St} (h : Inv k σ) : pre_X6_length σ ∧ ∀ r s1, post_X6_length σ r s1 → pre_X7_length s1 ∧ ∀ r' s2, post_X7_length s1 r' s2 → r' = r ∧ Inv (k + 1) s2 := by
  refine ⟨trivial, fun r s1 hp => ⟨trivial, fun r' s2 hq => ?_⟩⟩
  obtain ⟨er, es⟩ := hp
  obtain ⟨er', es'⟩ := hq
  subst es
  subst es'
  exact ⟨er'.trans (h.L8.trans er.symm), h.mono⟩
theorem st_byteAt {k : Nat} {σ : St} {a : Int} (h : Inv k σ) (ia : inR a) : pre_X6_byteAt a σ ∧ ∀ r s1, post_X6_byteAt a σ r s1 → pre_X7_byteAt a s1 ∧ ∀ r' s2, post_X7_byteAt a s1 r' s2 → r' = r ∧ Inv (k + 1) s2 := by
  have hL := h.L
  have h8 := h.L8
  refine ⟨⟨ia, h.L⟩, fun r s1 hp => ?_⟩
  obtain ⟨er, es⟩ := hp
  unfold ans_X6_byteAt at er
  unfold eff_X6_byteAt at es
  by_cases v : 0 ≤ a ∧ a < σ 1 4
  · rw [if_pos v] at er es
    subst es
    refine ⟨⟨ia, by rw [h8]; exact hL⟩, fun r' s2 hq => ?_⟩
    obtain ⟨er', es'⟩ := hq
    unfold ans_X7_byteAt at er'
    unfold eff_X7_byteAt at es'
    rw [h8, if_pos v] at er' es'
    rw [es']
    exact ⟨er'.trans ((h.T8 v.1 v.2).trans er.symm), h.mono⟩
  · rw [if_neg v] at er es
    obtain ⟨f1, f2, -, -⟩ := fail_81 (-2) σ
    rw [← es] at f1 f2
    refine ⟨⟨ia, by rw [f1, h8]; exact hL⟩, fun r' s2 hq => ?_⟩
    obtain ⟨er', es'⟩ := hq
    unfold ans_X7_byteAt at er'
    unfold eff_X7_byteAt at es'
    rw [f1, h8, if_neg v] at er'
    rw [f1, h8, if_neg v] at es'
    exact ⟨er'.trans er.symm, by rw [es', es]; exact h.fail ⟨by decide, by decide⟩⟩
theorem st_element {k : Nat} {σ : St} {a b : Int} (h : Inv k σ) (ia : inR a) (ib : inR b) : pre_X6_element a b σ ∧ ∀ r s1, post_X6_element a b σ r s1 → pre_X7_element a b s1 ∧ ∀ r' s2, post_X7_element a b s1 r' s2 → r' = r ∧ Inv (k + 1) s2 := by
  refine ⟨⟨ia, ib, fun r c d => h.S5 c d⟩, fun r s1 hp => ?_⟩
  obtain ⟨er, es⟩ := hp
  unfold ans_X6_element at er
  unfold eff_X6_element at es
  by_cases v : 0 ≤ a ∧ a < 6 ∧ 0 ≤ b
  · rw [if_neg (fun z => z v)] at er es
    subst es
    refine ⟨⟨ia, ib, fun r c d => by rw [(h.S8 c d).1]; exact h.S5 c d⟩, fun r' s2 hq => ?_⟩
    obtain ⟨er', es'⟩ := hq
    unfold ans_X7_element at er'
    unfold eff_X7_element at es'
    rw [if_neg (fun z => z v)] at er' es'
    rw [es']
    refine ⟨?_, h.mono⟩
    obtain ⟨g1, g2, g3⟩ := h.S8 v.1 v.2.1
    rw [g1] at er'
    rw [er, er']
    by_cases e : b < s1 5 a
    · rw [if_pos e, if_pos e]
      exact g3 b v.2.2 e
    · rw [if_neg e, if_neg e]
  · rw [if_pos v] at er es
    obtain ⟨f1, f2, -, -⟩ := fail_81 (-2) σ
    rw [← es] at f1 f2
    refine ⟨⟨ia, ib, fun r c d => by rw [f1, (h.S8 c d).1]; exact h.S5 c d⟩, fun r' s2 hq => ?_⟩
    obtain ⟨er', es'⟩ := hq
    unfold ans_X7_element at er'
    unfold eff_X7_element at es'
    rw [if_pos v] at er' es'
    exact ⟨er'.trans er.symm, by rw [es', es]; exact h.fail ⟨by decide, by decide⟩⟩
theorem st_errorCount {k : Nat} {σ : St} {a : Int} (h : Inv k σ) (ia : inR a) : pre_X6_errorCount a σ ∧ ∀ r s1, post_X6_errorCount a σ r s1 → pre_X7_errorCount a s1 ∧ ∀ r' s2, post_X7_errorCount a s1 r' s2 → r' = r ∧ Inv (k + 1) s2 := by
  refine ⟨ia, fun r s1 hp => ⟨ia, fun r' s2 hq => ?_⟩⟩
  obtain ⟨er, es⟩ := hp
  obtain ⟨er', es'⟩ := hq
  unfold ans_X6_errorCount at er
  unfold eff_X6_errorCount at es
  unfold ans_X7_errorCount at er'
  unfold eff_X7_errorCount at es'
  by_cases v : 0 ≤ a ∧ a < 3
  · rw [if_pos v] at er es er' es'
    subst es
    subst es'
    exact ⟨er'.trans ((h.2.2.1 a v.1 v.2).1.trans er.symm), h.mono⟩
  · rw [if_neg v] at er es er' es'
    exact ⟨er'.trans er.symm, by rw [es', es]; exact h.fail ⟨by decide, by decide⟩⟩
/-- a change of the buffers alone -/
theorem Inv.buf {k : Nat} {σ s : St} (h : Inv k σ) (n : ∀ q, q ≠ 0 → q ≠ 49 → q ≠ 80 → q ≠ 83 → s q = σ q) (n0 : ∀ j, j ≠ 6 → s 0 j = σ 0 j) (n80 : ∀ j, j ≠ 4 → s 80 j = σ 80 j) (hB : IB s) : Inv (k + 1) s := by
  obtain ⟨hG, -, hE, hH, hT⟩ := h
  refine ⟨IG_c (fun q a b => n q (by omega) (by omega) (by omega) (by omega)) (n 81 (by decide) (by decide) (by decide) (by decide)) hG, hB, IE_c (n 51 (by decide) (by decide) (by decide) (by decide)) (n 84 (by decide) (by decide) (by decide) (by decide)) hE, IH_c (by rw [n 10 (by decide) (by decide) (by decide) (by decide)]) (by rw [n 10 (by decide) (by decide) (by decide) (by decide)]) (fun q a b => n q (by omega) (by omega) (by omega) (by omega)) (n 82 (by decide) (by decide) (by decide) (by decide)) (n80 2 (by decide)) hH, IT_c (fun q a b c d e => Or.inl (n q (by omega) d (by omega) (by omega))) (n 85 (by decide) (by decide) (by decide) (by decide)) (n0 7 (by decide)) hT⟩
theorem st_append {k : Nat} {σ : St} {a : Int} (h : Inv k σ) (ia : inR a) : pre_X6_append a σ ∧ ∀ r s1, post_X6_append a σ r s1 → pre_X7_append a s1 ∧ ∀ r' s2, post_X7_append a s1 r' s2 → r' = r ∧ Inv (k + 1) s2 := by
  have hB := h.2.1
  obtain ⟨b1, b2, b3⟩ := hB
  refine ⟨⟨ia, b1⟩, fun r s1 hp => ?_⟩
  obtain ⟨er, es⟩ := hp
  unfold ans_X6_append at er
  unfold eff_X6_append at es
  by_cases v : 32 ≤ a ∧ a ≤ 126
  · rw [if_neg (fun z => z v)] at er es
    by_cases f : 8 ≤ σ 0 6
    · rw [if_pos f] at er es
      obtain ⟨-, f2, -, -⟩ := fail_81 (-4) σ
      rw [← es] at f2
      refine ⟨⟨ia, by rw [f2, b2]; exact b1⟩, fun r' s2 hq => ?_⟩
      obtain ⟨er', es'⟩ := hq
      unfold ans_X7_append at er'
      unfold eff_X7_append at es'
      rw [f2, b2, if_neg (fun z => z v), if_pos f] at er' es'
      exact ⟨er'.trans er.symm, by rw [es', es]; exact h.fail ⟨by decide, by decide⟩⟩
    · rw [if_neg f] at er es
      have k80 : s1 80 = σ 80 := by rw [es, up_n _ _ _ (by decide), up_n _ _ _ (by decide)]
      have k83 : s1 83 = σ 83 := by rw [es, up_n _ _ _ (by decide), up_n _ _ _ (by decide)]
      refine ⟨⟨ia, by rw [k80, b2]; exact b1⟩, fun r' s2 hq => ?_⟩
      obtain ⟨er', es'⟩ := hq
      unfold ans_X7_append at er'
      unfold eff_X7_append at es'
      rw [k80, b2, if_neg (fun z => z v), if_neg f] at er'
      rw [k80, b2, if_neg (fun z => z v), if_neg f] at es'
      have n : ∀ q, q ≠ 0 → q ≠ 49 → q ≠ 80 → q ≠ 83 → s2 q = σ q := fun q c d e g => by rw [es', up_n _ _ _ e, up_n _ _ _ g, es, up_n _ _ _ c, up_n _ _ _ d]
      have y0 : s2 0 = ui (σ 0) 6 (σ 0 6 + 1) := by rw [es', up_n _ _ _ (by decide), up_n _ _ _ (by decide), es, up_s, up_n _ _ _ (by decide)]
      have y49 : s2 49 = ui (σ 49) (σ 0 6) a := by rw [es', up_n _ _ _ (by decide), up_n _ _ _ (by decide), es, up_n _ _ _ (by decide), up_s]
      have y80 : s2 80 = ui (σ 80) 4 (σ 0 6 + 1) := by rw [es', up_s, up_n _ _ _ (by decide), k80]
      have y83 : s2 83 = ui (σ 83) (σ 0 6) a := by rw [es', up_n _ _ _ (by decide), up_s, k83]
      refine ⟨er'.trans er.symm, h.buf n (fun j c => by rw [y0, ui_n _ _ c]) (fun j c => by rw [y80, ui_n _ _ c]) ⟨by rw [y0, ui_s]; omega, by rw [y80, y0, ui_s, ui_s], fun j c d => ?_⟩⟩
      rw [y83, y49, y0, ui_s]
      by_cases e : j = σ 0 6
      · subst e
        rw [ui_s, ui_s]
        exact ⟨rfl, ⟨by omega, v.2⟩, fun _ => v.1⟩
      · rw [ui_n _ _ e, ui_n _ _ e]
        obtain ⟨g1, g2, g3⟩ := b3 j c d
        exact ⟨g1, g2, fun z => g3 (by omega)⟩
  · rw [if_pos v] at er es
    obtain ⟨-, f2, -, -⟩ := fail_81 (-2) σ
    rw [← es] at f2
    refine ⟨⟨ia, by rw [f2, b2]; exact b1⟩, fun r' s2 hq => ?_⟩
    obtain ⟨er', es'⟩ := hq
    unfold ans_X7_append at er'
    unfold eff_X7_append at es'
    rw [if_pos v] at er' es'
    exact ⟨er'.trans er.symm, by rw [es', es]; exact h.fail ⟨by decide, by decide⟩⟩
theorem st_clearPattern {k : Nat} {σ : St} (h : Inv k σ) : pre_X6_clearPattern σ ∧ ∀ r s1, post_X6_clearPattern σ r s1 → pre_X7_clearPattern s1 ∧ ∀ r' s2, post_X7_clearPattern s1 r' s2 → r' = r ∧ Inv (k + 1) s2 := by
  refine ⟨trivial, fun r s1 hp => ⟨trivial, fun r' s2 hq => ?_⟩⟩
  obtain ⟨er, es⟩ := hp
  obtain ⟨er', es'⟩ := hq
  have hB := h.2.1
  obtain ⟨b1, b2, b3⟩ := hB
  unfold ans_X6_clearPattern at er
  unfold eff_X6_clearPattern at es
  unfold ans_X7_clearPattern at er'
  unfold eff_X7_clearPattern at es'
  have k80 : s1 80 = σ 80 := by rw [es, up_n _ _ _ (by decide)]
  have n : ∀ q, q ≠ 0 → q ≠ 49 → q ≠ 80 → q ≠ 83 → s2 q = σ q := fun q c d e g => by rw [es', up_n _ _ _ e, es, up_n _ _ _ c]
  have y0 : s2 0 = ui (σ 0) 6 0 := by rw [es', up_n _ _ _ (by decide), es, up_s]
  have y49 : s2 49 = σ 49 := by rw [es', up_n _ _ _ (by decide), es, up_n _ _ _ (by decide)]
  have y80 : s2 80 = ui (σ 80) 4 0 := by rw [es', up_s, k80]
  have y83 : s2 83 = σ 83 := by rw [es', up_n _ _ _ (by decide), es, up_n _ _ _ (by decide)]
  refine ⟨by rw [er', er, k80, b2], h.buf n (fun j c => by rw [y0, ui_n _ _ c]) (fun j c => by rw [y80, ui_n _ _ c]) ⟨by rw [y0, ui_s]; omega, by rw [y80, y0, ui_s, ui_s], fun j c d => ?_⟩⟩
  rw [y83, y49, y0, ui_s]
  obtain ⟨g1, g2, g3⟩ := b3 j c d
  exact ⟨g1, g2, fun z => absurd c (by omega)⟩
theorem st_undo {k : Nat} {σ : St} (h : Inv k σ) : pre_X6_undo σ ∧ ∀ r s1, post_X6_undo σ r s1 → pre_X7_undo s1 ∧ ∀ r' s2, post_X7_undo s1 r' s2 → r' = r ∧ Inv (k + 1) s2 := by
  have h80 := h.m80
  have hs := h.sv
  have e80 := h.2.2.2.1.1.2.2
  refine ⟨h.sv, fun r s1 hp => ?_⟩
  obtain ⟨er, es⟩ := hp
  unfold ans_X6_undo at er
  unfold eff_X6_undo at es
  by_cases v : σ 10 2 = 0
  · rw [if_pos v] at er es
    obtain ⟨-, f2, -, -⟩ := fail_81 (-3) σ
    rw [← es] at f2
    refine ⟨by unfold pre_X7_undo; rw [f2]; exact h80, fun r' s2 hq => ?_⟩
    obtain ⟨er', es'⟩ := hq
    unfold ans_X7_undo at er'
    unfold eff_X7_undo at es'
    rw [f2, if_pos (e80.trans v)] at er' es'
    exact ⟨er'.trans er.symm, by rw [es', es]; exact h.fail ⟨by decide, by decide⟩⟩
  · rw [if_neg v] at er es
    obtain ⟨a1, a2, a3, a4⟩ := hs
    obtain ⟨x, hx⟩ : ∃ x : Int, x = if 0 < σ 10 1 then σ 10 1 - 1 else 3 := ⟨_, rfl⟩
    have hx0 : 0 ≤ x ∧ x ≤ 3 := by rw [hx]; split <;> omega
    have hb : x.toNat ≤ 3 := by omega
    obtain ⟨c1, c2⟩ := copyF (up σ 10 1 x) (b := 1) (b2 := 12 + 9 * x.toNat) (by omega)
    have es : s1 = up (up (eff_X5_copyFrom 1 (12 + 9 * x.toNat) (up σ 10 1 x)) 10 2 (max (σ 10 2 - 1) 0)) 0 7 1 := by
      rw [es]
      unfold eff_X1_restore ans_X1_slotAt
      rw [← hx, if_pos ⟨hx0.1, by omega⟩]
    have n : ∀ q, q ≠ 0 → q ≠ 10 → ¬ (1 ≤ q ∧ q ≤ 9) → s1 q = σ q := fun q a b c => by rw [es, up_n _ _ _ a, up_n _ _ _ b, c1 q c, up_n _ _ _ b]
    have y0 : s1 0 = ui (σ 0) 7 1 := by rw [es, up_s, up_n _ _ _ (by decide), c1 0 (by decide), up_n _ _ _ (by decide)]
    have y10 : s1 10 = ui (ui (σ 10) 1 x) 2 (max (σ 10 2 - 1) 0) := by rw [es, up_n _ _ _ (by decide), up_s, c1 10 (by decide), up_s]
    have k80 : s1 80 = σ 80 := n 80 (by decide) (by decide) (by decide)
    have k81 : s1 81 = σ 81 := n 81 (by decide) (by decide) (by decide)
    have k82 : s1 82 = σ 82 := n 82 (by decide) (by decide) (by decide)
    refine ⟨by unfold pre_X7_undo; rw [k80]; exact h80, fun r' s2 hq => ?_⟩
    obtain ⟨er', es'⟩ := hq
    unfold ans_X7_undo at er'
    unfold eff_X7_undo at es'
    rw [k80, e80, if_neg v] at er'
    rw [k80, e80, if_neg v] at es'
    have m : ∀ q, q ≠ 80 → q ≠ 81 → s2 q = s1 q := fun q a b => by rw [es', ur_n _ _ b, up_n _ _ _ a]
    have z80 : s2 80 = ui (σ 80) 2 (σ 10 2 - 1) := by rw [es', ur_n _ _ (by decide), up_s, k80]
    have z81 : ∀ j, 0 ≤ j → j < 161 → s2 81 j = σ 82 (161 * (σ 10 2 - 1) + j) := fun j a b => by
      rw [es', ur_s]
      show (if 0 ≤ j ∧ j < 161 then s1 82 (161 * (σ 10 2 - 1) + j) else _) = _
      rw [if_pos ⟨a, b⟩, k82]
    have z10 : s2 10 1 = x ∧ s2 10 2 = σ 10 2 - 1 := by
      rw [m 10 (by decide) (by decide), y10, ui_s, ui_n _ _ (by decide), ui_s]
      exact ⟨rfl, by omega⟩
    have n2 : ∀ q, q ≠ 0 → q ≠ 10 → q ≠ 80 → q ≠ 81 → ¬ (1 ≤ q ∧ q ≤ 9) → s2 q = σ q := fun q a b c d e => by rw [m q c d, n q a b e]
    obtain ⟨hG, hB, hE, hH, hT⟩ := h
    refine ⟨er'.trans er.symm, ?_, IB_c (by rw [m 0 (by decide) (by decide), y0, ui_n _ _ (by decide)]) (n2 49 (by decide) (by decide) (by decide) (by decide) (by decide)) (n2 83 (by decide) (by decide) (by decide) (by decide) (by decide)) (by rw [z80, ui_n _ _ (by decide)]) hB, IE_c (n2 51 (by decide) (by decide) (by decide) (by decide) (by decide)) (n2 84 (by decide) (by decide) (by decide) (by decide) (by decide)) hE, ?_, IT_stale (fun q a b => n2 q (by omega) (by omega) (by omega) (by omega) (by omega)) (n2 85 (by decide) (by decide) (by decide) (by decide) (by decide)) (by rw [m 0 (by decide) (by decide), y0, ui_s]) hT⟩
    · obtain ⟨w, s⟩ := hH.2 (σ 10 2 - 1) (by omega) (by omega)
      have e : slt σ (σ 10 2 - 1) = 12 + 9 * x.toNat := by
        unfold slt
        have : (σ 10 1 - σ 10 2 + (σ 10 2 - 1)) % 4 = x := by rw [hx]; split <;> omega
        rw [this]
      rw [e] at w s
      have u10 : CPs σ (12 + 9 * x.toNat) (up σ 10 1 x) (12 + 9 * x.toNat) := CPs.same (fun q a b => up_n _ _ _ (by omega))
      have s10 : CPs (eff_X5_copyFrom 1 (12 + 9 * x.toNat) (up σ 10 1 x)) 1 s2 1 := CPs.same (fun q a b => by rw [m q (by omega) (by omega), es, up_n _ _ _ (by omega), up_n _ _ _ (by omega)])
      refine SMc_move w s ((u10.trans c2).trans s10) (fun j a b => ?_)
      rw [show (0 : Int) + j = j by omega]
      exact z81 j a b
    · obtain ⟨g, f⟩ := hH
      refine ⟨⟨by rw [z10.1]; exact hx0, by rw [z10.2]; omega, by rw [z80, ui_s, z10.2]⟩, fun i a b => ?_⟩
      rw [z10.2] at b
      obtain ⟨w, s⟩ := f i a (by omega)
      have e : slt s2 i = slt σ i := by
        unfold slt
        rw [z10.1, z10.2]
        have : (x - (σ 10 2 - 1) + i) % 4 = (σ 10 1 - σ 10 2 + i) % 4 := by rw [hx]; split <;> omega
        rw [this]
      have hr : 12 ≤ slt σ i ∧ slt σ i + 8 < 48 := by unfold slt; omega
      rw [e]
      exact SMc_move w s (CPs.same (fun q c d => n2 q (by omega) (by omega) (by omega) (by omega) (by omega))) (fun j _ _ => by rw [n2 82 (by decide) (by decide) (by decide) (by decide) (by decide)])
