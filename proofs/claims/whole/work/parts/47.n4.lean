theorem SI_add {g : Gr} {T : Tb} (hW : gWF g) (hG : Good g T) {σ : St} {p z : Int} {s s1 s2 : St} (h : SI g T σ p z s) (hp : 0 ≤ p ∧ p < gl g) (hz : p < z) (hzl : z ≤ gl g) (hd : s 77 p ≠ -1) (ht : ct s = T) (e1 : s1 = eff_X3_addNode p s)
    (hC : ∃ N, (tr g T (s 77 p) (0, p) N).1 = gs g (s 77 p) ∧ CW g T s1 (s 61 11) (s 77 p) (0, p) N s2) (hN : ∃ v, isN g T (s 77 p) p v ∧ s2 75 = ui (s1 75) (s 61 11) v) : SI g T σ (p + 1) z s2 := by
  obtain ⟨h1, h2, h3, h4, h5, h6, h7, h8, h9⟩ := h
  obtain ⟨hL, -, -⟩ := id hW
  obtain ⟨⟨k0, k1⟩, ⟨a1, a2⟩, par, star, apart⟩ := h5 p (Int.le_refl p) (by omega) hd
  obtain ⟨N, hN1, c1, c2, c3, c4⟩ := hC
  obtain ⟨v, hv1, hv2⟩ := hN
  generalize en : s 61 11 = n at *
  generalize ek : s 77 p = k at *
  generalize epi : s 79 p = π at *
  have hs : 0 ≤ p ∧ p ≤ gl g := ⟨hp.1, by omega⟩
  have hne : T k 0 p ≠ -1 := by omega
  have etg : tget s k 0 p = T k 0 p := by rw [tget_nn hp.1, ht]
  have e1 : s1 = up (up (up (up (up (up (up (up s 63 n k) 65 n p) 67 n (T k 0 p)) 69 n π) 71 n (if π = -1 then 0 else s 71 π + 1)) 73 n 0) 75 n (-1)) 61 11 (n + 1) := by
    rw [e1]
    unfold eff_X3_addNode
    rw [en, ek, epi, etg]
  have f63 : s1 63 = ui (s 63) n k := by
    rw [e1, up_n _ _ _ (by decide), up_n _ _ _ (by decide), up_n _ _ _ (by decide), up_n _ _ _ (by decide), up_n _ _ _ (by decide), up_n _ _ _ (by decide), up_n _ _ _ (by decide), up_s]
  have f65 : s1 65 = ui (s 65) n p := by
    rw [e1, up_n _ _ _ (by decide), up_n _ _ _ (by decide), up_n _ _ _ (by decide), up_n _ _ _ (by decide), up_n _ _ _ (by decide), up_n _ _ _ (by decide), up_s, up_n _ _ _ (by decide)]
  have f67 : s1 67 = ui (s 67) n (T k 0 p) := by
    rw [e1, up_n _ _ _ (by decide), up_n _ _ _ (by decide), up_n _ _ _ (by decide), up_n _ _ _ (by decide), up_n _ _ _ (by decide), up_s, up_n _ _ _ (by decide), up_n _ _ _ (by decide)]
  have f69 : s1 69 = ui (s 69) n π := by
    rw [e1, up_n _ _ _ (by decide), up_n _ _ _ (by decide), up_n _ _ _ (by decide), up_n _ _ _ (by decide), up_s, up_n _ _ _ (by decide), up_n _ _ _ (by decide), up_n _ _ _ (by decide)]
  have f71 : s1 71 = ui (s 71) n (if π = -1 then 0 else s 71 π + 1) := by
    rw [e1, up_n _ _ _ (by decide), up_n _ _ _ (by decide), up_n _ _ _ (by decide), up_s, up_n _ _ _ (by decide), up_n _ _ _ (by decide), up_n _ _ _ (by decide), up_n _ _ _ (by decide)]
  have f73 : s1 73 = ui (s 73) n 0 := by
    rw [e1, up_n _ _ _ (by decide), up_n _ _ _ (by decide), up_s, up_n _ _ _ (by decide), up_n _ _ _ (by decide), up_n _ _ _ (by decide), up_n _ _ _ (by decide), up_n _ _ _ (by decide)]
  have f75 : s1 75 = ui (s 75) n (-1) := by
    rw [e1, up_n _ _ _ (by decide), up_s, up_n _ _ _ (by decide), up_n _ _ _ (by decide), up_n _ _ _ (by decide), up_n _ _ _ (by decide), up_n _ _ _ (by decide), up_n _ _ _ (by decide)]
  have f61 : s1 61 = ui (s 61) 11 (n + 1) := by
    rw [e1, up_s, up_n _ _ _ (by decide), up_n _ _ _ (by decide), up_n _ _ _ (by decide), up_n _ _ _ (by decide), up_n _ _ _ (by decide), up_n _ _ _ (by decide), up_n _ _ _ (by decide)]
  have fo : ∀ q, q ≠ 61 → q ≠ 63 → q ≠ 65 → q ≠ 67 → q ≠ 69 → q ≠ 71 → q ≠ 73 → q ≠ 75 → s1 q = s q := fun q b1 b2 b3 b4 b5 b6 b7 b8 => by
    rw [e1, up_n _ _ _ b1, up_n _ _ _ b8, up_n _ _ _ b7, up_n _ _ _ b6, up_n _ _ _ b5, up_n _ _ _ b4, up_n _ _ _ b3, up_n _ _ _ b2]
  have g63 : s2 63 = ui (s 63) n k := by rw [c1 63 (by decide) (by decide) (by decide) (by decide), f63]
  have g65 : s2 65 = ui (s 65) n p := by rw [c1 65 (by decide) (by decide) (by decide) (by decide), f65]
  have g67 : s2 67 = ui (s 67) n (T k 0 p) := by rw [c1 67 (by decide) (by decide) (by decide) (by decide), f67]
  have g69 : s2 69 = ui (s 69) n π := by rw [c1 69 (by decide) (by decide) (by decide) (by decide), f69]
  have g71 : s2 71 = ui (s 71) n (if π = -1 then 0 else s 71 π + 1) := by rw [c1 71 (by decide) (by decide) (by decide) (by decide), f71]
  have g61 : s2 61 = ui (s 61) 11 (n + 1) := by rw [c1 61 (by decide) (by decide) (by decide) (by decide), f61]
  have g73 : s2 73 = ui (s 73) n (wsum g T k (0, p) N) := by
    rw [c2, f73, ui_ui, ui_s, Int.zero_add]
  have g75 : s2 75 = ui (s 75) n v := by rw [hv2, f75, ui_ui]
  have g11 : s2 61 11 = n + 1 := by rw [g61, ui_s]
  have o77 : s1 77 = s 77 := fo 77 (by decide) (by decide) (by decide) (by decide) (by decide) (by decide) (by decide) (by decide)
  have o79 : s1 79 = s 79 := fo 79 (by decide) (by decide) (by decide) (by decide) (by decide) (by decide) (by decide) (by decide)
  rw [o77, o79] at c4
  -- the children
  have chi : ∀ m, emc g T k (tr g T k (0, p) m) ≠ -1 → m < N ∧ (p < (tr g T k (0, p) m).2 ∧ (tr g T k (0, p) m).2 < T (emc g T k (tr g T k (0, p) m)) 0 (tr g T k (0, p) m).2 ∧ T (emc g T k (tr g T k (0, p) m)) 0 (tr g T k (0, p) m).2 ≤ T k 0 p) := fun m hm => by
    have q := ch_at hW hG ⟨k0, k1⟩ hs rfl hne hm
    refine ⟨?_, q.2.2.2.2.1, by rw [q.2.2.1]; exact q.2.2.2.1, by rw [q.2.2.1]; exact q.2.2.2.2.2.1⟩
    rcases Nat.lt_or_ge m N with u | u
    · exact u
    · exfalso
      have e : tr g T k (0, p) m = tr g T k (0, p) N := by
        have := tr_add g T k (0, p) N (m - N)
        rw [show N + (m - N) = m by omega] at this
        rw [this, nx_fix (by omega)]
      have := q.2.2.2.2.2.2
      rw [e] at this
      omega
  have isch : ∀ q, (∃ m, emc g T k (tr g T k (0, p) m) ≠ -1 ∧ (tr g T k (0, p) m).2 = q ∧ s2 77 q = emc g T k (tr g T k (0, p) m) ∧ s2 79 q = n) ∨ (s2 77 q = s 77 q ∧ s2 79 q = s 79 q ∧ ∀ m, emc g T k (tr g T k (0, p) m) ≠ -1 → (tr g T k (0, p) m).2 ≠ q) := fun q => by
    by_cases c : ∃ m, emc g T k (tr g T k (0, p) m) ≠ -1 ∧ (tr g T k (0, p) m).2 = q
    · obtain ⟨m, m1, m2⟩ := c
      obtain ⟨u1, u2⟩ := c3 m (chi m m1).1 m1
      rw [m2] at u1 u2
      exact Or.inl ⟨m, m1, m2, u1, u2⟩
    · have c' : ∀ m, emc g T k (tr g T k (0, p) m) ≠ -1 → (tr g T k (0, p) m).2 ≠ q := fun m m1 m2 => c ⟨m, m1, m2⟩
      obtain ⟨u1, u2⟩ := c4 q (fun m _ m1 => c' m m1)
      exact Or.inr ⟨u1, u2, c'⟩
  -- pending ones that stay
  have stay : ∀ q, p < q → q < 100 → s 77 q ≠ -1 → s2 77 q = s 77 q ∧ s2 79 q = s 79 q ∧ T k 0 p ≤ q := fun q b1 b2 b3 => by
    have ap := apart q b1 b2 b3
    rcases isch q with ⟨m, m1, m2, m3, m4⟩ | ⟨u1, u2, u3⟩
    · have := (chi m m1).2
      rw [m2] at this
      omega
    · exact ⟨u1, u2, ap⟩
  have de : s2 71 n = if π = -1 then 0 else s 71 π + 1 := by rw [g71, ui_s]
  have pib : π ≠ -1 → 0 ≤ π ∧ π < n := fun a => by
    rcases par with ⟨b, -⟩ | ⟨b, -⟩
    · exact absurd b a
    · exact b
  have low : ∀ (f : Int → Int) (w : Int) (j : Int), j < n → ui f n w j = f j := fun f w j a => ui_n _ _ (by omega)
  have dlt : ∀ i, 0 ≤ i → i < n → p < s 67 i → s 71 i < s2 71 n := fun i b1 b2 b3 => by
    obtain ⟨u1, u2⟩ := star i b1 b2 b3
    rw [de, if_neg u1]
    omega
  refine ⟨fun q a => ?_, by rw [g11]; omega, fun j a b => ?_, fun i j a b c => ?_, fun q a b c => ?_, fun k' q a b => ?_, fun j a b k' q c => ?_, by omega, ?_⟩
  · rw [c1 q (by omega) (by omega) (by omega) (by omega), fo q (by omega) (by omega) (by omega) (by omega) (by omega) (by omega) (by omega) (by omega)]
    exact h1 q a
  · rw [g11] at b
    by_cases e : j = n
    · subst e
      rw [g65, g67, ui_s, ui_s]
      refine ⟨?_, by omega, by omega⟩
      unfold nodeOK
      rw [g63, g65, g67, g69, g73, g75, ui_s, ui_s, ui_s, ui_s, ui_s, ui_s]
      refine ⟨⟨k0, k1⟩, hp, rfl, hne, ?_, ⟨N, by omega, rfl⟩, hv1⟩
      rcases par with ⟨b1, b2⟩ | ⟨b1, b2⟩
      · exact Or.inl ⟨b1, b2, by rw [de, if_pos b1]⟩
      · refine Or.inr ⟨b1, ?_, ?_⟩
        · rw [low _ _ _ b1.2, low _ _ _ b1.2]
          exact b2
        · rw [de, if_neg (by omega), g71, low _ _ _ b1.2]
    · have b' : j < n := by omega
      obtain ⟨u1, u2, u3⟩ := h3 j a b'
      rw [g65, g67, low _ _ _ b', low _ _ _ b']
      refine ⟨?_, by omega, u3⟩
      unfold nodeOK at u1 ⊢
      obtain ⟨v1, v2, v3, v4, v5, v6, v7⟩ := u1
      rw [g63, g65, g67, g69, g71, g73, g75, low _ _ _ b', low _ _ _ b', low _ _ _ b', low _ _ _ b', low _ _ _ b', low _ _ _ b', low _ _ _ b']
      refine ⟨v1, v2, v3, v4, ?_, v6, v7⟩
      rcases v5 with w | ⟨w1, w2, w3⟩
      · exact Or.inl w
      · refine Or.inr ⟨w1, ?_, ?_⟩
        · rw [low _ _ _ (by omega), low _ _ _ (by omega)]
          exact w2
        · rw [low _ _ _ (by omega)]
          exact w3
  · rw [g11] at c
    by_cases e : j = n
    · subst e
      rw [g65, g67, low _ _ _ b, low _ _ _ b, ui_s]
      refine ⟨(h3 i a b).2.1, fun d => ?_⟩
      have := dlt i a b d
      rw [show s2 71 i = s 71 i by rw [g71, low _ _ _ b]]
      exact this
    · have c' : j < n := by omega
      rw [g65, g67, g71, low _ _ _ (show i < n by omega), low _ _ _ c', low _ _ _ (show i < n by omega), low _ _ _ (show i < n by omega), low _ _ _ c']
      exact h4 i j a b c'
  · -- pending
    rw [g11]
    have star2 : ∀ (q w : Int), (∀ i, 0 ≤ i → i < n → q < s 67 i → w ≠ -1 ∧ s 71 i ≤ s2 71 w) → (q < T k 0 p → w ≠ -1 ∧ s2 71 n ≤ s2 71 w) → ∀ i, 0 ≤ i → i < n + 1 → q < s2 67 i → w ≠ -1 ∧ s2 71 i ≤ s2 71 w := by
      intro q w o1 o2 i b1 b2 b3
      by_cases e : i = n
      · subst e
        rw [g67, ui_s] at b3
        exact o2 b3
      · rw [g67, low _ _ _ (show i < n by omega)] at b3
        rw [show s2 71 i = s 71 i by rw [g71, low _ _ _ (show i < n by omega)]]
        exact o1 i b1 (by omega) b3
    rcases isch q with ⟨m, m1, m2, m3, m4⟩ | ⟨u1, u2, u3⟩
    · obtain ⟨mN, c5, c6, c7⟩ := chi m m1
      have ca := ch_at hW hG ⟨k0, k1⟩ hs rfl hne m1
      rw [m2] at c5 c6 c7
      rw [m3, m4]
      refine ⟨⟨ca.1, ca.2.1⟩, ⟨c6, by omega⟩, Or.inr ⟨by omega, ?_⟩, star2 q n (fun i b1 b2 b3 => ⟨by omega, ?_⟩) (fun _ => ⟨by omega, Int.le_refl _⟩), fun q2 b1 b2 b3 => ?_⟩
      · rw [g63, g65, ui_s, ui_s]
        exact ⟨m1, m, rfl, m2⟩
      · have := dlt i b1 b2 (by omega)
        omega
      · rcases isch q2 with ⟨m', n1, n2, n3, n4⟩ | ⟨u1, u2, u3⟩
        · have lt : m < m' := by
            rcases Nat.lt_or_ge m m' with u | u
            · exact u
            · have := tr_mono hW hG ⟨k0, k1⟩ hs rfl hne m' (m - m')
              rw [show m' + (m - m') = m by omega, n2, m2] at this
              omega
          have := (ch_apart hW hG ⟨k0, k1⟩ hs rfl hne lt m1).2
          rw [n2, ← ca.2.2.1, m2] at this
          exact this
        · rw [u1] at b3
          have := (stay q2 (by omega) b2 b3).2.2
          omega
    · rw [u1] at c
      obtain ⟨v1, v2, v3, v4, v5⟩ := h5 q (by omega) b c
      have ap := apart q (by omega) b c
      rw [u1, u2]
      refine ⟨v1, v2, ?_, star2 q (s 79 q) (fun i b1 b2 b3 => ?_) (fun b3 => by omega), fun q2 b1 b2 b3 => ?_⟩
      · rcases v3 with w | ⟨w1, w2⟩
        · exact Or.inl w
        · refine Or.inr ⟨by omega, ?_⟩
          rw [g63, g65, low _ _ _ w1.2, low _ _ _ w1.2]
          exact w2
      · obtain ⟨w1, w2⟩ := v4 i b1 b2 b3
        refine ⟨w1, ?_⟩
        have wb : s 79 q < n := by
          rcases v3 with ⟨x, -⟩ | ⟨x, -⟩
          · exact absurd x w1
          · exact x.2
        rw [g71, low _ _ _ wb]
        exact w2
      · rcases isch q2 with ⟨m', n1, n2, n3, n4⟩ | ⟨x1, x2, x3⟩
        · have := (chi m' n1).2
          rw [n2] at this
          omega
        · rw [x1] at b3
          exact v5 q2 b1 b2 b3
  · rw [g11]
    rcases h6 k' q a b with ⟨j, j1, j2, j3, j4⟩ | ⟨j1, j2, j3⟩
    · refine Or.inl ⟨j, by omega, ?_, ?_, ?_⟩
      · rw [g65, low _ _ _ j1.2]; exact j2
      · rw [g63, low _ _ _ j1.2]; exact j3
      · rw [g69, low _ _ _ j1.2]; exact j4
    · by_cases e : q = p
      · subst e
        refine Or.inl ⟨n, by omega, by rw [g65, ui_s], ?_, ?_⟩
        · rw [g63, ui_s, ← ek]; exact j2
        · rw [g69, ui_s, ← epi]; exact j3
      · have := stay q (by omega) (by omega) (by rw [j2]; exact a.1)
        refine Or.inr ⟨by omega, by rw [this.1]; exact j2, by rw [this.2.1]; exact j3⟩
  · rw [g11] at b ⊢
    by_cases e : j = n
    · subst e
      rw [g63, g65, ui_s, ui_s] at c
      obtain ⟨d1, m, d2, d3⟩ := c
      have hm : emc g T k (tr g T k (0, p) m) ≠ -1 := by rw [d2]; exact d1
      have ci := chi m hm
      obtain ⟨u1, u2⟩ := c3 m ci.1 hm
      rw [d3] at u1 u2 ci
      refine Or.inr ⟨by omega, by rw [u1]; exact d2, u2⟩
    · have b' : j < n := by omega
      rw [g63, g65, low _ _ _ b', low _ _ _ b'] at c
      rcases h7 j a b' k' q c with ⟨i, i1, i2, i3, i4⟩ | ⟨i1, i2, i3⟩
      · refine Or.inl ⟨i, by omega, ?_, ?_, ?_⟩
        · rw [g65, low _ _ _ i1.2]; exact i2
        · rw [g63, low _ _ _ i1.2]; exact i3
        · rw [g69, low _ _ _ i1.2]; exact i4
      · by_cases e2 : q = p
        · subst e2
          refine Or.inl ⟨n, by omega, by rw [g65, ui_s], ?_, ?_⟩
          · rw [g63, ui_s, ← ek]; exact i2
          · rw [g69, ui_s, ← epi]; exact i3
        · have ql : q < 100 := by
            obtain ⟨v1, v2, v3, v4, v5, v6, v7⟩ := (h3 j a b').1
            obtain ⟨y1, m, y2, y3⟩ := c
            rw [← y2] at y1
            have := (ch_at hW hG v1 ⟨v2.1, by omega⟩ v3 v4 y1)
            have e3 := (tr_ok hW hG v1 ⟨v2.1, by omega⟩ v3 v4 (m + 1)).2.1
            rw [y3] at this
            omega
          have := stay q (by omega) ql (by rw [i2]; exact c.1)
          exact Or.inr ⟨by omega, by rw [this.1]; exact i2, by rw [this.2.1]; exact i3⟩
  · obtain ⟨M, m1, m2, m3, m4, m5⟩ := h9
    refine ⟨M, m1, ?_, ?_, ?_, ?_⟩
    · rw [g61, ui_n _ _ (by decide)]; exact m2
    · rw [g61, ui_n _ _ (by decide)]; exact m3
    · rw [g61, ui_n _ _ (by decide)]; exact m4
    · rw [g61, ui_n _ _ (by decide)]; exact m5
