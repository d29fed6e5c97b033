theorem wsum_b (g : Gr) (T : Tb) (r : Int) (x : Int × Int) : ∀ n : Nat, 0 ≤ wsum g T r x n ∧ wsum g T r x n ≤ n := by
  intro n
  induction n with
  | zero => exact ⟨Int.le_refl 0, Int.le_refl 0⟩
  | succ n ih =>
    have h : 0 ≤ emw g T r (tr g T r x n) ∧ emw g T r (tr g T r x n) ≤ 1 := by
      unfold emw
      repeat' split
      all_goals omega
    show 0 ≤ wsum g T r x n + emw g T r (tr g T r x n) ∧ wsum g T r x n + emw g T r (tr g T r x n) ≤ ((n + 1 : Nat) : Int)
    omega
/-- what a node's rows can be -/
theorem PO_rng {g : Gr} {T : Tb} {σ : St} (hW : gWF g) (hG : Good g T) (h : PO g T σ) : (0 ≤ σ 61 11 ∧ σ 61 11 ≤ 100) ∧ (0 ≤ σ 61 12 ∧ σ 61 12 ≤ 100) ∧ (0 ≤ σ 61 13 ∧ σ 61 13 ≤ 100) ∧ (0 ≤ σ 61 15 ∧ σ 61 15 ≤ 100) ∧ ∀ j, 0 ≤ j → j < σ 61 11 → (0 ≤ σ 63 j ∧ σ 63 j < 6) ∧ (0 ≤ σ 65 j ∧ σ 65 j < 100) ∧ (0 ≤ σ 67 j ∧ σ 67 j ≤ 100) ∧ (-1 ≤ σ 69 j ∧ σ 69 j < 100) ∧ (0 ≤ σ 73 j ∧ σ 73 j ≤ 109) ∧ (-1 ≤ σ 75 j ∧ σ 75 j < 1000000) := by
  obtain ⟨h1, h2, h3, h4, h5, N, n1, n2, n3, n4⟩ := h
  obtain ⟨hL, -, -⟩ := id hW
  have tb := tcn_b hW hG N
  have tpo := tp_ok hW hG N
  refine ⟨by omega, by omega, by omega, by omega, fun j a b => ?_⟩
  obtain ⟨v1, v2, v3, v4, v5, ⟨M, m1, m2⟩, v7⟩ := h2 j a b
  have tk := tr_ok hW hG v1 ⟨v2.1, by omega⟩ v3 v4 0
  have hh := tr_halt hW hG v1 ⟨v2.1, by omega⟩ v3 v4 (Nat.le_refl 109)
  have hw := wsum_halt m1 (show gs g (σ 63 j) ≤ (tr g T (σ 63 j) (0, σ 65 j) 109).1 by rw [hh]; exact Int.le_refl _)
  have wb := wsum_b g T (σ 63 j) (0, σ 65 j) 109
  refine ⟨v1, by omega, by omega, ?_, by omega, ?_⟩
  · rcases v5 with ⟨w, -⟩ | ⟨w, -⟩ <;> omega
  · rcases v7 with ⟨w, -⟩ | ⟨k, w1, w2, w3, w4⟩
    · omega
    · have := dec_b g (tr g T (σ 63 j) (0, σ 65 j) k).2
      omega
theorem Fresh.rng {σ : St} (h : Fresh σ) : (0 ≤ σ 61 11 ∧ σ 61 11 ≤ 100) ∧ (0 ≤ σ 61 12 ∧ σ 61 12 ≤ 100) ∧ (0 ≤ σ 61 13 ∧ σ 61 13 ≤ 100) ∧ (0 ≤ σ 61 15 ∧ σ 61 15 ≤ 100) ∧ ∀ j, 0 ≤ j → j < σ 61 11 → (0 ≤ σ 63 j ∧ σ 63 j < 6) ∧ (0 ≤ σ 65 j ∧ σ 65 j < 100) ∧ (0 ≤ σ 67 j ∧ σ 67 j ≤ 100) ∧ (-1 ≤ σ 69 j ∧ σ 69 j < 100) ∧ (0 ≤ σ 73 j ∧ σ 73 j ≤ 109) ∧ (-1 ≤ σ 75 j ∧ σ 75 j < 1000000) := PO_rng h.1.2.1 h.1.2.2.1 h.2
theorem Fresh.keep {σ s : St} (h : Fresh σ) (hr : ∀ q, 1 ≤ q → q < 80 → q ≠ 10 → q ≠ 49 → q ≠ 51 → s q = σ q ∨ (12 ≤ q ∧ q < 48)) : Fresh s := by
  have e : ∀ q, 1 ≤ q → q < 80 → q ≠ 10 → q ≠ 49 → q ≠ 51 → ¬ (12 ≤ q ∧ q < 48) → s q = σ q := fun q a b c d f g => (hr q a b c d f).resolve_right g
  have cgs : cg s 1 = cg σ 1 := cg_congr (fun q a b => e q (by omega) (by omega) (by omega) (by omega) (by omega) (by omega))
  have cts : ct s = ct σ := ct_row (e 60 (by decide) (by decide) (by decide) (by decide) (by decide) (by decide))
  obtain ⟨⟨h1, h2, h3, h4⟩, h5⟩ := h
  refine ⟨⟨MB_rows h1 (e 54 (by decide) (by decide) (by decide) (by decide) (by decide) (by decide)) (e 56 (by decide) (by decide) (by decide) (by decide) (by decide) (by decide)) (e 58 (by decide) (by decide) (by decide) (by decide) (by decide) (by decide)) (e 60 (by decide) (by decide) (by decide) (by decide) (by decide) (by decide)), by rw [cgs]; exact h2, by rw [cgs, cts]; exact h3, ?_⟩, ?_⟩
  · rw [cgs, cts, e 1 (by decide) (by decide) (by decide) (by decide) (by decide) (by decide), e 54 (by decide) (by decide) (by decide) (by decide) (by decide) (by decide), e 56 (by decide) (by decide) (by decide) (by decide) (by decide) (by decide), e 58 (by decide) (by decide) (by decide) (by decide) (by decide) (by decide)]
    exact h4
  · rw [cgs, cts]
    unfold PO nodeOK at h5 ⊢
    rw [e 61 (by decide) (by decide) (by decide) (by decide) (by decide) (by decide), e 63 (by decide) (by decide) (by decide) (by decide) (by decide) (by decide), e 65 (by decide) (by decide) (by decide) (by decide) (by decide) (by decide), e 67 (by decide) (by decide) (by decide) (by decide) (by decide) (by decide), e 69 (by decide) (by decide) (by decide) (by decide) (by decide) (by decide), e 71 (by decide) (by decide) (by decide) (by decide) (by decide) (by decide), e 73 (by decide) (by decide) (by decide) (by decide) (by decide) (by decide), e 75 (by decide) (by decide) (by decide) (by decide) (by decide) (by decide)]
    exact h5
theorem v_X6_refresh (σ : St) (hp : pre_X6_refresh σ) : V_X6_refresh σ (post_X6_refresh σ) := by
  obtain ⟨hM, hW, hs, hF⟩ := hp
  refine ⟨by rcases hs with h | h <;> rw [h] <;> exact ⟨by decide, by decide⟩, fun h => ⟨fun _ _ _ _ _ _ _ => rfl, fun _ _ => rfl, h, hF h⟩, fun h => ⟨⟨hM, hW⟩, fun s4 u => ?_⟩⟩
  obtain ⟨u1, u2, u3, u4⟩ := u
  have cg4 : cg s4 1 = cg σ 1 := cg_congr (fun q a b => u2 q (by omega) (by omega) (by omega) (by omega))
  have ms : pre_X3_update s4 := ⟨u1, by rw [cg4]; exact hW, by rw [cg4]; exact u3, by rw [cg4, u2 1 (by decide) (by decide) (by decide) (by decide)]; exact u4⟩
  refine ⟨ms, fun s7 w s9 e9 => ?_⟩
  obtain ⟨w1, w2⟩ := w
  have cg7 : cg s7 1 = cg s4 1 := cg_congr (fun q a b => w1 q (by omega))
  have ct7 : ct s7 = ct s4 := ct_row (w1 60 (by decide))
  have f7 : Fresh s7 := by
    obtain ⟨m1, m2, m3, m4⟩ := ms
    refine ⟨⟨MB_rows m1 (w1 54 (by decide)) (w1 56 (by decide)) (w1 58 (by decide)) (w1 60 (by decide)), by rw [cg7]; exact m2, by rw [cg7, ct7]; exact m3, ?_⟩, by rw [cg7, ct7]; exact w2⟩
    rw [cg7, ct7, w1 1 (by decide), w1 54 (by decide), w1 56 (by decide), w1 58 (by decide)]
    exact m4
  refine ⟨fun q a b c d e f => ?_, fun j a => ?_, ?_, f7.keep (fun q a b c d e => Or.inl (by rw [e9, up_n _ _ _ (by omega)]))⟩
  · rw [e9, up_n _ _ _ a, w1 q f, u2 q b c d e]
  · rw [e9, up_s, ui_n _ _ a, w1 0 (by decide), u2 0 (by decide) (by decide) (by decide) (by decide)]
  · rw [e9, up_s, ui_s]
