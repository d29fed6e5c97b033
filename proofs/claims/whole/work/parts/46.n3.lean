theorem tp_ok {g : Gr} {T : Tb} (hW : gWF g) (hG : Good g T) : ∀ n, 0 ≤ tp g T n ∧ tp g T n ≤ gl g ∧ tp g T n ≤ tp g T (n + 1) ∧ (tp g T n < gl g → tp g T n < tp g T (n + 1)) := by
  obtain ⟨hL, ht, hR⟩ := id hW
  have BD := bnd hW (p := -1) (by decide) (fun q a b => hG q (by omega) b)
  have st : ∀ n, 0 ≤ tp g T n → tp g T n ≤ gl g → tp g T n ≤ tp g T (n + 1) ∧ tp g T (n + 1) ≤ gl g ∧ (tp g T n < gl g → tp g T n < tp g T (n + 1)) := by
    intro n h0 h1
    show tp g T n ≤ (if gl g ≤ tp g T n then tp g T n else if first T (tp g T n) = -1 then tp g T n + 1 else T (first T (tp g T n)) 0 (tp g T n)) ∧ (if gl g ≤ tp g T n then tp g T n else if first T (tp g T n) = -1 then tp g T n + 1 else T (first T (tp g T n)) 0 (tp g T n)) ≤ gl g ∧ (tp g T n < gl g → tp g T n < (if gl g ≤ tp g T n then tp g T n else if first T (tp g T n) = -1 then tp g T n + 1 else T (first T (tp g T n)) 0 (tp g T n)))
    by_cases c : gl g ≤ tp g T n
    · rw [if_pos c]
      omega
    · rw [if_neg c]
      by_cases d : first T (tp g T n) = -1
      · rw [if_pos d]
        omega
      · rw [if_neg d]
        obtain ⟨f1, f2, f3⟩ := (first_rng T (tp g T n)).resolve_left d
        have u := ((BD _ _ (Nat.le_refl _) (by omega) h1).1 _ f1 f2).resolve_left f3
        omega
  have all : ∀ n, 0 ≤ tp g T n ∧ tp g T n ≤ gl g := by
    intro n
    induction n with
    | zero => exact ⟨Int.le_refl 0, hL.1⟩
    | succ n ih =>
      have := st n ih.1 ih.2
      omega
  exact fun n => ⟨(all n).1, (all n).2, (st n (all n).1 (all n).2).1, (st n (all n).1 (all n).2).2.2⟩
theorem tp_mono {g : Gr} {T : Tb} (hW : gWF g) (hG : Good g T) (n : Nat) : ∀ d, tp g T n ≤ tp g T (n + d) := by
  intro d
  induction d with
  | zero => exact Int.le_refl _
  | succ d ih => exact Int.le_trans ih (tp_ok hW hG (n + d)).2.2.1
theorem tcn_b {g : Gr} {T : Tb} (hW : gWF g) (hG : Good g T) : ∀ n, (0 ≤ (tcn g T n).1 ∧ (tcn g T n).1 ≤ tp g T n) ∧ (0 ≤ (tcn g T n).2.1 ∧ (tcn g T n).2.1 ≤ tp g T n) ∧ (0 ≤ (tcn g T n).2.2.1 ∧ (tcn g T n).2.2.1 ≤ tp g T n) ∧ (0 ≤ (tcn g T n).2.2.2 ∧ (tcn g T n).2.2.2 ≤ tp g T n) := by
  intro n
  induction n with
  | zero => exact ⟨⟨Int.le_refl 0, Int.le_refl 0⟩, ⟨Int.le_refl 0, Int.le_refl 0⟩, ⟨Int.le_refl 0, Int.le_refl 0⟩, ⟨Int.le_refl 0, Int.le_refl 0⟩⟩
  | succ n ih =>
    have h := tp_ok hW hG n
    obtain ⟨a1, a2, a3, a4⟩ := ih
    by_cases c : gl g ≤ tp g T n
    · have e : tcn g T (n + 1) = tcn g T n := if_pos c
      rw [e]
      omega
    · have lt := h.2.2.2 (by omega)
      by_cases d : first T (tp g T n) = -1
      · have e : tcn g T (n + 1) = ((tcn g T n).1, (tcn g T n).2.1 + 1, (tcn g T n).2.2.1 + 1, max (tcn g T n).2.2.2 ((tcn g T n).2.2.1 + 1)) := by
          show (if gl g ≤ tp g T n then _ else if first T (tp g T n) = -1 then _ else _) = _
          rw [if_neg c, if_pos d]
        rw [e]
        dsimp only
        omega
      · have e : tcn g T (n + 1) = ((tcn g T n).1 + 1, (tcn g T n).2.1, 0, (tcn g T n).2.2.2) := by
          show (if gl g ≤ tp g T n then _ else if first T (tp g T n) = -1 then _ else _) = _
          rw [if_neg c, if_neg d]
        rw [e]
        dsimp only
        omega
/-- the sweep: p is the place, z the end of the present top-level piece -/
def SI (g : Gr) (T : Tb) (σ : St) (p z : Int) (s : St) : Prop :=
  (∀ q, q < 61 ∨ 80 ≤ q → s q = σ q) ∧ (0 ≤ s 61 11 ∧ s 61 11 ≤ p) ∧
  (∀ j, 0 ≤ j → j < s 61 11 → nodeOK g T s j ∧ s 65 j < p ∧ s 67 j ≤ z) ∧
  (∀ i j, 0 ≤ i → i < j → j < s 61 11 → s 65 i < s 65 j ∧ (s 65 j < s 67 i → s 71 i < s 71 j)) ∧
  (∀ q, p ≤ q → q < 100 → s 77 q ≠ -1 → (0 ≤ s 77 q ∧ s 77 q < 6) ∧ (q < T (s 77 q) 0 q ∧ T (s 77 q) 0 q ≤ z) ∧ ((s 79 q = -1 ∧ To g T (s 77 q) q) ∨ ((0 ≤ s 79 q ∧ s 79 q < s 61 11) ∧ Ch g T (s 63 (s 79 q)) (s 65 (s 79 q)) (s 77 q) q)) ∧ (∀ i, 0 ≤ i → i < s 61 11 → q < s 67 i → s 79 q ≠ -1 ∧ s 71 i ≤ s 71 (s 79 q)) ∧ (∀ q2, q < q2 → q2 < 100 → s 77 q2 ≠ -1 → T (s 77 q) 0 q ≤ q2)) ∧
  (∀ k q, To g T k q → q < z → (∃ j, (0 ≤ j ∧ j < s 61 11) ∧ s 65 j = q ∧ s 63 j = k ∧ s 69 j = -1) ∨ (p ≤ q ∧ s 77 q = k ∧ s 79 q = -1)) ∧
  (∀ j, 0 ≤ j → j < s 61 11 → ∀ k q, Ch g T (s 63 j) (s 65 j) k q → (∃ i, (0 ≤ i ∧ i < s 61 11) ∧ s 65 i = q ∧ s 63 i = k ∧ s 69 i = j) ∨ (p ≤ q ∧ s 77 q = k ∧ s 79 q = j)) ∧
  (p ≤ z ∧ ∃ N, tp g T N = z ∧ s 61 12 = (tcn g T N).1 ∧ s 61 13 = (tcn g T N).2.1 ∧ s 61 14 = (tcn g T N).2.2.1 ∧ s 61 15 = (tcn g T N).2.2.2)
theorem SI_skip {g : Gr} {T : Tb} {σ : St} {p z : Int} {s : St} (h : SI g T σ p z s) (hz : p < z) (hd : s 77 p = -1) : SI g T σ (p + 1) z s := by
  obtain ⟨h1, h2, h3, h4, h5, h6, h7, h8, h9⟩ := h
  refine ⟨h1, ⟨h2.1, by omega⟩, fun j a b => ⟨(h3 j a b).1, by have := (h3 j a b).2.1; omega, (h3 j a b).2.2⟩, h4, fun q a b c => h5 q (by omega) b c, fun k q a b => ?_, fun j a b k q c => ?_, by omega, h9⟩
  · rcases h6 k q a b with u | ⟨u1, u2, u3⟩
    · exact Or.inl u
    · refine Or.inr ⟨?_, u2, u3⟩
      by_cases e : q = p
      · subst e
        exact absurd (u2.symm.trans hd) a.1
      · omega
  · rcases h7 j a b k q c with u | ⟨u1, u2, u3⟩
    · exact Or.inl u
    · refine Or.inr ⟨?_, u2, u3⟩
      by_cases e : q = p
      · subst e
        exact absurd (u2.symm.trans hd) c.1
      · omega
theorem SI_top {g : Gr} {T : Tb} (hW : gWF g) (hG : Good g T) {σ : St} {p : Int} {s : St} (h : SI g T σ p p s) (hp : 0 ≤ p ∧ p < gl g) (h58 : s 58 p = first T p) (ht : ct s = T) : SI g T σ p (ans_X3_takeTopLevel p s) (eff_X3_takeTopLevel p s) ∧ p < ans_X3_takeTopLevel p s ∧ ans_X3_takeTopLevel p s ≤ gl g := by
  obtain ⟨h1, h2, h3, h4, h5, h6, h7, h8, N, n1, n2, n3, n4, n5⟩ := h
  obtain ⟨hL, -, hR⟩ := id hW
  have BD := bnd hW (p := -1) (by decide) (fun q a b => hG q (by omega) b)
  have np : ¬ gl g ≤ tp g T N := by rw [n1]; omega
  have none : ∀ q, p ≤ q → q < 100 → s 77 q = -1 := fun q a b => by
    by_cases c : s 77 q = -1
    · exact c
    · have := (h5 q a b c).2.1
      omega
  unfold ans_X3_takeTopLevel eff_X3_takeTopLevel
  rw [h58]
  by_cases c : first T p = -1
  · rw [if_pos c, if_pos c]
    have et : tp g T (N + 1) = p + 1 := by
      show (if gl g ≤ tp g T N then tp g T N else if first T (tp g T N) = -1 then tp g T N + 1 else T (first T (tp g T N)) 0 (tp g T N)) = _
      rw [if_neg np, n1, if_pos c]
    have ec : tcn g T (N + 1) = ((tcn g T N).1, (tcn g T N).2.1 + 1, (tcn g T N).2.2.1 + 1, max (tcn g T N).2.2.2 ((tcn g T N).2.2.1 + 1)) := by
      show (if gl g ≤ tp g T N then tcn g T N else if first T (tp g T N) = -1 then _ else _) = _
      rw [if_neg np, n1, if_pos c]
    have rn : ∀ q, q ≠ 61 → up (up (up s 61 13 (s 61 13 + 1)) 61 14 (s 61 14 + 1)) 61 15 (max (s 61 15) (s 61 14 + 1)) q = s q := fun q a => by rw [up_n _ _ _ a, up_n _ _ _ a, up_n _ _ _ a]
    generalize es : up (up (up s 61 13 (s 61 13 + 1)) 61 14 (s 61 14 + 1)) 61 15 (max (s 61 15) (s 61 14 + 1)) = s' at rn ⊢
    have r61 : s' 61 = ui (ui (ui (s 61) 13 (s 61 13 + 1)) 14 (s 61 14 + 1)) 15 (max (s 61 15) (s 61 14 + 1)) := by rw [← es, up_s, up_s, up_s]
    have e11 : s' 61 11 = s 61 11 := by rw [r61, ui_n _ _ (by decide), ui_n _ _ (by decide), ui_n _ _ (by decide)]
    have r63 := rn 63 (by decide)
    have r65 := rn 65 (by decide)
    have r67 := rn 67 (by decide)
    have r69 := rn 69 (by decide)
    have r71 := rn 71 (by decide)
    have r73 := rn 73 (by decide)
    have r75 := rn 75 (by decide)
    have r77 := rn 77 (by decide)
    have r79 := rn 79 (by decide)
    refine ⟨⟨fun q a => by rw [rn q (by omega)]; exact h1 q a, by rw [e11]; exact h2, fun j a b => ?_, ?_, fun q a b d => absurd (none q a b) (by rw [← r77]; exact d), fun k q a b => ?_, ?_, by omega, N + 1, et, ?_⟩, by omega, by omega⟩
    · rw [e11] at b
      obtain ⟨u1, u2, u3⟩ := h3 j a b
      unfold nodeOK at u1 ⊢
      rw [r63, r65, r67, r69, r71, r73, r75]
      exact ⟨u1, u2, by omega⟩
    · rw [e11, r65, r67, r71]
      exact h4
    · rw [e11, r65, r63, r69, r77, r79]
      by_cases e : q = p
      · subst e
        exact absurd (a.2.choose_spec.2.2.symm.trans c) a.1
      · exact h6 k q a (by omega)
    · rw [e11, r63, r65, r69, r77, r79]
      exact h7
    · rw [ec, r61]
      dsimp only
      refine ⟨?_, ?_, ?_, ?_⟩
      · rw [ui_n _ _ (by decide), ui_n _ _ (by decide), ui_n _ _ (by decide)]
        exact n2
      · rw [ui_n _ _ (by decide), ui_n _ _ (by decide), ui_s, n3]
      · rw [ui_n _ _ (by decide), ui_s, n4]
      · rw [ui_s, n4, n5]
  · rw [if_neg c, if_neg c]
    obtain ⟨f1, f2, f3⟩ := (first_rng T p).resolve_left c
    have u := ((BD _ p (Nat.le_refl _) (by omega) (by omega)).1 _ f1 f2).resolve_left f3
    have etg : tget s (first T p) 0 p = T (first T p) 0 p := by rw [tget_nn hp.1, ht]
    rw [etg]
    have et : tp g T (N + 1) = T (first T p) 0 p := by
      show (if gl g ≤ tp g T N then tp g T N else if first T (tp g T N) = -1 then tp g T N + 1 else T (first T (tp g T N)) 0 (tp g T N)) = _
      rw [if_neg np, n1, if_neg c]
    have ec : tcn g T (N + 1) = ((tcn g T N).1 + 1, (tcn g T N).2.1, 0, (tcn g T N).2.2.2) := by
      show (if gl g ≤ tp g T N then tcn g T N else if first T (tp g T N) = -1 then _ else _) = _
      rw [if_neg np, n1, if_neg c]
    have rn : ∀ q, q ≠ 61 → q ≠ 77 → q ≠ 79 → eff_X3_announce p (first T p) (-1) (up (up s 61 14 0) 61 12 (s 61 12 + 1)) q = s q := fun q a b d => by
      unfold eff_X3_announce
      rw [up_n _ _ _ d, up_n _ _ _ b, up_n _ _ _ a, up_n _ _ _ a]
    have x61 : eff_X3_announce p (first T p) (-1) (up (up s 61 14 0) 61 12 (s 61 12 + 1)) 61 = ui (ui (s 61) 14 0) 12 (s 61 12 + 1) := by
      unfold eff_X3_announce
      rw [up_n _ _ _ (by decide), up_n _ _ _ (by decide), up_s, up_s]
    have x77 : eff_X3_announce p (first T p) (-1) (up (up s 61 14 0) 61 12 (s 61 12 + 1)) 77 = ui (s 77) p (first T p) := by
      unfold eff_X3_announce
      rw [up_n _ _ _ (by decide), up_s, up_n _ _ _ (by decide), up_n _ _ _ (by decide)]
    have x79 : eff_X3_announce p (first T p) (-1) (up (up s 61 14 0) 61 12 (s 61 12 + 1)) 79 = ui (s 79) p (-1) := by
      unfold eff_X3_announce
      rw [up_s, up_n _ _ _ (by decide), up_n _ _ _ (by decide), up_n _ _ _ (by decide)]
    generalize eff_X3_announce p (first T p) (-1) (up (up s 61 14 0) 61 12 (s 61 12 + 1)) = s' at rn x61 x77 x79 ⊢
    have e11 : s' 61 11 = s 61 11 := by rw [x61, ui_n _ _ (by decide), ui_n _ _ (by decide)]
    have r63 := rn 63 (by decide) (by decide) (by decide)
    have r65 := rn 65 (by decide) (by decide) (by decide)
    have r67 := rn 67 (by decide) (by decide) (by decide)
    have r69 := rn 69 (by decide) (by decide) (by decide)
    have r71 := rn 71 (by decide) (by decide) (by decide)
    have r73 := rn 73 (by decide) (by decide) (by decide)
    have r75 := rn 75 (by decide) (by decide) (by decide)
    have d77 : ∀ q, q ≠ p → s' 77 q = s 77 q := fun q a => by rw [x77, ui_n _ _ a]
    have d79 : ∀ q, q ≠ p → s' 79 q = s 79 q := fun q a => by rw [x79, ui_n _ _ a]
    have p77 : s' 77 p = first T p := by rw [x77, ui_s]
    have p79 : s' 79 p = -1 := by rw [x79, ui_s]
    have tt : To g T (first T p) p := ⟨c, N, n1, hp.2, rfl⟩
    refine ⟨⟨fun q a => by rw [rn q (by omega) (by omega) (by omega)]; exact h1 q a, by rw [e11]; exact h2, fun j a b => ?_, ?_, fun q a b d => ?_, fun k q a b => ?_, fun j a b k q d => ?_, by omega, N + 1, et, ?_⟩, u.1, u.2⟩
    · rw [e11] at b
      obtain ⟨u1, u2, u3⟩ := h3 j a b
      unfold nodeOK at u1 ⊢
      rw [r63, r65, r67, r69, r71, r73, r75]
      exact ⟨u1, u2, by omega⟩
    · rw [e11, r65, r67, r71]
      exact h4
    · by_cases e : q = p
      · subst e
        rw [p77, p79, e11, r67, r71]
        refine ⟨⟨f1, f2⟩, ⟨u.1, Int.le_refl _⟩, Or.inl ⟨rfl, tt⟩, fun i a2 b2 c2 => ?_, fun q2 a2 b2 c2 => ?_⟩
        · have := (h3 i a2 b2).2.2
          omega
        · rw [d77 q2 (by omega), none q2 (by omega) b2] at c2
          exact absurd rfl c2
      · rw [d77 q e, none q a b] at d
        exact absurd rfl d
    · rw [e11, r65, r63, r69]
      by_cases e : q = p
      · subst e
        obtain ⟨w1, w2, w3, w4, w5⟩ := a
        rw [p77, p79]
        exact Or.inr ⟨Int.le_refl _, w5, rfl⟩
      · rw [d77 q e, d79 q e]
        by_cases lt : q < p
        · exact h6 k q a lt
        · exfalso
          obtain ⟨w1, M, w3, w4, w5⟩ := a
          rcases Nat.lt_or_ge N M with g1 | g1
          · have := tp_mono hW hG (N + 1) (M - (N + 1))
            rw [show N + 1 + (M - (N + 1)) = M by omega, et, w3] at this
            omega
          · have := tp_mono hW hG M (N - M)
            rw [show M + (N - M) = N by omega, n1, w3] at this
            omega
    · rw [e11] at b
      rw [r63, r65] at d
      rw [e11, r65, r63, r69]
      rcases h7 j a b k q d with w | ⟨w1, w2, w3⟩
      · exact Or.inl w
      · exfalso
        have ql : q < 100 := by
          obtain ⟨v1, v2, v3, v4, v5, v6, v7⟩ := (h3 j a b).1
          obtain ⟨y1, m, y2, y3⟩ := d
          rw [← y2] at y1
          have := (ch_at hW hG v1 ⟨v2.1, by omega⟩ v3 v4 y1)
          rw [y3] at this
          have b2 := (tr_ok hW hG v1 ⟨v2.1, by omega⟩ v3 v4 m).2.1
          have := this.2.2.2.1
          have e3 := (tr_ok hW hG v1 ⟨v2.1, by omega⟩ v3 v4 (m + 1)).2.1
          omega
        exact d.1 (w2.symm.trans (none q w1 ql))
    · rw [ec, x61]
      dsimp only
      refine ⟨?_, ?_, ?_, ?_⟩
      · rw [ui_s, n2]
      · rw [ui_n _ _ (by decide), ui_n _ _ (by decide), n3]
      · rw [ui_n _ _ (by decide), ui_s]
      · rw [ui_n _ _ (by decide), ui_n _ _ (by decide), n5]
