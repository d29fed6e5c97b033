/-- behind N steps of the top level -/
def PI (σ : St) (N : Nat) (y1 y2 : Int) (s : St) : Prop :=
  (∀ q, q ≠ 80 → q ≠ 85 → q ≠ 86 → q ≠ 87 → q ≠ 88 → q ≠ 89 → q ≠ 90 → s q = σ q) ∧ (∀ j, j ≠ 12 → j ≠ 13 → j ≠ 14 → j ≠ 15 → s 80 j = σ 80 j) ∧ MC s ∧
  tp (mg (σ 81) 0) (ct σ) N = y2 ∧ s 80 12 = (tcn (mg (σ 81) 0) (ct σ) N).1 ∧ s 80 14 = (tcn (mg (σ 81) 0) (ct σ) N).2.1 ∧ y1 = (tcn (mg (σ 81) 0) (ct σ) N).2.2.1 ∧ s 80 15 = (tcn (mg (σ 81) 0) (ct σ) N).2.2.2 ∧
  FB (mg (σ 81) 0) (ct σ) (s 86) (s 87) (s 88) (s 80 12) ∧
  (∀ f, 0 ≤ f → f < s 80 12 → s 88 f = -1 ∧ s 87 f < y2 ∧ s 89 f = 0 ∧ s 90 f = -1) ∧
  (∀ n, n < N → tp (mg (σ 81) 0) (ct σ) n < gl (mg (σ 81) 0) → first (ct σ) (tp (mg (σ 81) 0) (ct σ) n) ≠ -1 → ∃ f, (0 ≤ f ∧ f < s 80 12) ∧ s 87 f = tp (mg (σ 81) 0) (ct σ) n ∧ s 86 f = first (ct σ) (tp (mg (σ 81) 0) (ct σ) n))
theorem PI_water {σ s s' : St} {N : Nat} {y1 y2 : Int} (h : PI σ N y1 y2 s) (hl : y2 < gl (mg (σ 81) 0)) (hf : first (ct σ) y2 = -1) (e : s' = up (up s 80 14 (s 80 14 + 1)) 80 15 (max (s 80 15) (y1 + 1))) : PI σ (N + 1) (y1 + 1) (y2 + 1) s' := by
  obtain ⟨h1, h2, h3, h4, h5, h6, h7, h8, h9, h10, h11⟩ := h
  have row : ∀ q, q ≠ 80 → s' q = s q := fun q a => by rw [e, up_n _ _ _ a, up_n _ _ _ a]
  have j : ∀ j, j ≠ 14 → j ≠ 15 → s' 80 j = s 80 j := fun j a b => by rw [e, up_s, ui_n _ _ b, up_s, ui_n _ _ a]
  have j14 : s' 80 14 = s 80 14 + 1 := by rw [e, up_s, ui_n _ _ (by decide), up_s, ui_s]
  have j15 : s' 80 15 = max (s 80 15) (y1 + 1) := by rw [e, up_s, ui_s]
  have nl : ¬ gl (mg (σ 81) 0) ≤ tp (mg (σ 81) 0) (ct σ) N := by omega
  have tpe : tp (mg (σ 81) 0) (ct σ) (N + 1) = y2 + 1 := by
    show (if _ then _ else if _ then _ else _) = _
    rw [if_neg nl, h4, if_pos hf]
  have te : tcn (mg (σ 81) 0) (ct σ) (N + 1) = ((tcn (mg (σ 81) 0) (ct σ) N).1, (tcn (mg (σ 81) 0) (ct σ) N).2.1 + 1, (tcn (mg (σ 81) 0) (ct σ) N).2.2.1 + 1, max (tcn (mg (σ 81) 0) (ct σ) N).2.2.2 ((tcn (mg (σ 81) 0) (ct σ) N).2.2.1 + 1)) := by
    show (if _ then _ else if _ then _ else _) = _
    rw [if_neg nl, h4, if_pos hf]
  refine ⟨fun q a b c d e' f g => by rw [row q a]; exact h1 q a b c d e' f g, fun i a b c d => by rw [j i c d]; exact h2 i a b c d, MC_rows h3 (row 81 (by decide)) (row 85 (by decide)) (row 60 (by decide)), tpe, ?_, ?_, ?_, ?_, ?_, ?_, ?_⟩
  · rw [te, j 12 (by decide) (by decide), h5]
  · rw [te, j14, h6]
  · rw [te, h7]
  · rw [te, j15, h8, h7]
  · rw [j 12 (by decide) (by decide), row 86 (by decide), row 87 (by decide), row 88 (by decide)]
    exact h9
  · rw [j 12 (by decide) (by decide), row 87 (by decide), row 88 (by decide), row 89 (by decide), row 90 (by decide)]
    exact fun f a b => ⟨(h10 f a b).1, by have := (h10 f a b).2.1; omega, (h10 f a b).2.2⟩
  · rw [j 12 (by decide) (by decide), row 86 (by decide), row 87 (by decide)]
    intro n hn a b
    by_cases z : n = N
    · subst z
      rw [h4] at b
      exact absurd hf b
    · exact h11 n (by omega) a b
theorem PI_island {σ s s' : St} {N : Nat} {y1 y2 : Int} (hW : gWF (mg (σ 81) 0)) (hG : Good (mg (σ 81) 0) (ct σ)) (h : PI σ N y1 y2 s) (hl : y2 < gl (mg (σ 81) 0)) (hf : first (ct σ) y2 ≠ -1) (e : s' = adN s (first (ct σ) y2) y2 (-1)) : PI σ (N + 1) 0 (ct σ (first (ct σ) y2) 0 y2) s' := by
  obtain ⟨h1, h2, h3, h4, h5, h6, h7, h8, h9, h10, h11⟩ := h
  obtain ⟨w1, w2, w3, w4, w5, w6, w7⟩ := adN_r s (first (ct σ) y2) y2 (-1)
  rw [← e] at w1 w2 w3 w4 w5 w6 w7
  have row : ∀ q, q ≠ 80 → q ≠ 86 → q ≠ 87 → q ≠ 88 → q ≠ 89 → q ≠ 90 → s' q = s q := w1
  have j : ∀ j, j ≠ 12 → s' 80 j = s 80 j := fun j a => by rw [w2, ui_n _ _ a]
  have j12 : s' 80 12 = s 80 12 + 1 := by rw [w2, ui_s]
  have nl : ¬ gl (mg (σ 81) 0) ≤ tp (mg (σ 81) 0) (ct σ) N := by omega
  have tpe : tp (mg (σ 81) 0) (ct σ) (N + 1) = ct σ (first (ct σ) y2) 0 y2 := by
    show (if _ then _ else if _ then _ else _) = _
    rw [if_neg nl, h4, if_neg hf]
  have te : tcn (mg (σ 81) 0) (ct σ) (N + 1) = ((tcn (mg (σ 81) 0) (ct σ) N).1 + 1, (tcn (mg (σ 81) 0) (ct σ) N).2.1, 0, (tcn (mg (σ 81) 0) (ct σ) N).2.2.2) := by
    show (if _ then _ else if _ then _ else _) = _
    rw [if_neg nl, h4, if_neg hf]
  have tb := tcn_b hW hG N
  have tk := tp_ok hW hG N
  rw [tpe, h4] at tk
  have m0 : 0 ≤ s 80 12 := by omega
  have fr := (first_rng (ct σ) y2).resolve_left hf
  have low : ∀ (a : Int → Int) (v j : Int), j < s 80 12 → ui a (s 80 12) v j = a j := fun a v j h => ui_n _ _ (by omega)
  refine ⟨fun q a b c d e' f g => by rw [row q a c d e' f g]; exact h1 q a b c d e' f g, fun i a b c d => by rw [j i a]; exact h2 i a b c d, MC_rows h3 (row 81 (by decide) (by decide) (by decide) (by decide) (by decide) (by decide)) (row 85 (by decide) (by decide) (by decide) (by decide) (by decide) (by decide)) (row 60 (by decide) (by decide) (by decide) (by decide) (by decide) (by decide)), tpe, ?_, ?_, ?_, ?_, ?_, ?_, ?_⟩
  · rw [te, j12, h5]
  · rw [te, j 14 (by decide), h6]
  · rw [te]
  · rw [te, j 15 (by decide), h8]
  · rw [j12, w3, w4, w5]
    exact FB_add m0 h9 ⟨fr.1, fr.2.1⟩ ⟨tk.1, hl⟩ fr.2.2 (Or.inl ⟨rfl, hf, N, h4, hl, rfl⟩) (fun f1 a b c => (h10 f1 a b).2.1)
  · intro f a b
    rw [j12] at b
    rw [w4, w5, w6, w7]
    by_cases z : f = s 80 12
    · subst z
      rw [ui_s, ui_s, ui_s, ui_s]
      exact ⟨rfl, tk.2.2.2 hl, rfl, rfl⟩
    · rw [low _ _ _ (by omega), low _ _ _ (by omega), low _ _ _ (by omega), low _ _ _ (by omega)]
      obtain ⟨u1, u2, u3⟩ := h10 f a (by omega)
      exact ⟨u1, by have := tk.2.2.2 hl; omega, u3⟩
  · rw [j12, w3, w4]
    intro n hn a b
    by_cases z : n = N
    · subst z
      exact ⟨s 80 12, by omega, by rw [ui_s, h4], by rw [ui_s, h4]⟩
    · obtain ⟨f, f1, f2, f3⟩ := h11 n (by omega) a b
      exact ⟨f, by omega, by rw [low _ _ _ f1.2]; exact f2, by rw [low _ _ _ f1.2]; exact f3⟩
theorem l_X7_parse1 (σ : St) (hW : gWF (mg (σ 81) 0)) (hG : Good (mg (σ 81) 0) (ct σ)) (Q : St → Prop) (hQ : ∀ N y1 y2 s, PI σ N y1 y2 s → gl (mg (σ 81) 0) ≤ y2 → ∀ s10, s10 = up s 80 13 (s 80 12) → ∃ n, L_X7_parse_117 Q n 0 s10) : ∀ (n : Nat) (y1 y2 : Int) (s : St), (σ 81 0 - y2).toNat < n → (∃ N, PI σ N y1 y2 s) → L_X7_parse_23 Q n y1 y2 s := by
  obtain ⟨⟨t0, t1⟩, hT, hR⟩ := mgW hW
  intro n
  induction n with
  | zero => intro y1 y2 s hn; exact absurd hn (Nat.not_lt_zero _)
  | succ n ih =>
    intro y1 y2 s hn hPI
    obtain ⟨N, hPI⟩ := hPI
    obtain ⟨h1, h2, h3, h4, h5, h6, h7, h8, h9, h10, h11⟩ := id hPI
    have k81 : s 81 = σ 81 := h1 81 (by decide) (by decide) (by decide) (by decide) (by decide) (by decide) (by decide)
    have k60 : s 60 = σ 60 := h1 60 (by decide) (by decide) (by decide) (by decide) (by decide) (by decide) (by decide)
    have cts : ct s = ct σ := ct_row k60
    have tb := tcn_b hW hG N
    have tk := tp_ok hW hG N
    rw [h4, mg_L] at tk
    rw [h4] at tb
    refine ⟨⟨by omega, by omega⟩, by rw [k81]; exact ⟨by omega, by omega⟩, fun c => ?_, fun c => ?_⟩
    · rw [k81] at c
      exact hQ N y1 y2 s hPI (by rw [mg_L]; exact c)
    · rw [k81] at c
      refine ⟨⟨by omega, by omega, h3.2.1⟩, fun r20 e20 => ?_⟩
      have e20 : r20 = first (ct σ) y2 := by
        rw [e20]
        show first (mt s) y2 = _
        rw [MC_first h3 (by omega) (by rw [k81]; omega), cts]
      have fr := first_rng (ct σ) y2
      rw [← e20] at fr
      refine ⟨⟨by omega, by omega⟩, fun b s23 e23 => ?_, fun b => ?_⟩
      · have s15 : s23 80 15 = s 80 15 := by rw [e23, up_s, ui_n _ _ (by decide)]
        refine ⟨⟨by omega, by omega⟩, by rw [s15]; exact ⟨by omega, by omega⟩, fun d s27 e27 => ?_, fun d s28 e28 => ?_⟩
        · refine ih _ _ _ (by omega) ⟨N + 1, PI_water hPI (by rw [mg_L]; omega) (by rw [← e20]; exact b) ?_⟩
          rw [s15] at d
          rw [e27, s15, e23, show max (s 80 15) (y1 + 1) = s 80 15 by omega]
        · refine ih _ _ _ (by omega) ⟨N + 1, PI_water hPI (by rw [mg_L]; omega) (by rw [← e20]; exact b) ?_⟩
          rw [s15] at d
          rw [e28, e23, show max (s 80 15) (y1 + 1) = y1 + 1 by omega]
      · refine ⟨⟨by omega, by omega⟩, fun s30 e30 => ⟨trivial, fun r35 e35 => ?_⟩⟩
        have e30 : s30 = adN s r20 y2 (-1) := e30
        have e35 : r35 = 101 * (9 * r20 + 0) + y2 := e35
        have fb : first (ct σ) y2 ≠ -1 := by rw [← e20]; exact b
        have v85 : s30 85 r35 = ct σ r20 0 y2 := by
          rw [e30, (adN_r s r20 y2 (-1)).1 85 (by decide) (by decide) (by decide) (by decide) (by decide) (by decide), e35]
          have := h3.2.2.2 y2 (by omega) (by rw [k81]; omega) r20 (by omega) (by omega) 0 (by decide)
          rw [k81, cts] at this
          exact this (by rw [m7_s (by omega) (by omega)]; exact (hR r20 (by omega) (by omega)).1.1)
        have tpe : tp (mg (σ 81) 0) (ct σ) (N + 1) = ct σ r20 0 y2 := by
          show (if _ then _ else if _ then _ else _) = _
          rw [h4, if_neg (by rw [mg_L]; omega), if_neg fb, e20]
        have := tk.2.2.2 (by omega)
        rw [tpe] at this
        refine ⟨⟨by omega, by omega⟩, ?_⟩
        rw [v85]
        refine ih _ _ _ (by omega) ⟨N + 1, ?_⟩
        rw [e20]
        exact PI_island hW hG hPI (by rw [mg_L]; omega) fb (by rw [e30, e20])
