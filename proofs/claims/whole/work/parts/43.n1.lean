theorem v_X3_clear (σ : St) (hp : pre_X3_clear σ) : V_X3_clear σ (post_X3_clear σ) := by
  refine ⟨trivial, fun s2 e2 s4 e4 s5 e5 s6 e6 s7 e7 s8 e8 => ?_⟩
  show s8 = eff_X3_clear σ
  rw [e8, e7, e6, e5, e4, e2]
  rfl
theorem v_X3_addNode (x1 : Int) (σ : St) (hp : pre_X3_addNode x1 σ) : V_X3_addNode x1 σ (post_X3_addNode x1 σ) := by
  obtain ⟨p0, p1, p2, p3, p4, p5, p6, p7⟩ := hp
  have s1 : ∀ (τ : St) (i v : Int) (k : Nat), 0 ≤ i → i < 100 → eff_X4_set k 100 i v τ = up τ (k + 1) i v := fun τ i v k a b => if_pos ⟨a, b⟩
  have q1 : ∀ (τ : St) (i : Int) (k : Nat), 0 ≤ i → i < 100 → ans_X4_get k 100 i τ = τ (k + 1) i := fun τ i k a b => if_pos ⟨a, b⟩
  have iR : ∀ i : Int, 0 ≤ i → i < 100 → inR i := fun i a b => ⟨by omega, by omega⟩
  have iN : inR (σ 61 11) := iR _ p2 p3
  have i1 : inR x1 := iR _ p0 p1
  refine ⟨i1, fun r3 e3 => ⟨i1, fun r7 e7 => ⟨iN, fun s10 e10 => ?_⟩⟩⟩
  rw [q1 _ _ _ p0 p1] at e3 e7
  have e3 : r3 = σ 77 x1 := e3
  have e7 : r7 = σ 79 x1 := e7
  rw [s1 _ _ _ _ p2 p3] at e10
  have n10 : s10 61 11 = σ 61 11 := by rw [e10, up_n _ _ _ (by decide)]
  refine ⟨by rw [n10]; exact iN, fun s13 e13 => ?_⟩
  rw [n10, s1 _ _ _ _ p2 p3] at e13
  have n13 : s13 61 11 = σ 61 11 := by rw [e13, up_n _ _ _ (by decide)]; exact n10
  have c13 : ∀ r, tget s13 r 0 x1 = tget σ r 0 x1 := fun r => by
    have : ct s13 = ct σ := by
      funext a b c
      unfold ct
      rw [e13, up_n _ _ _ (by decide), e10, up_n _ _ _ (by decide)]
    unfold tget
    rw [this]
  refine ⟨⟨by omega, by omega, by omega, by omega⟩, fun r17 e17 => ?_⟩
  have e17 : r17 = tget σ (σ 77 x1) 0 x1 := by rw [e17, e3]; exact c13 _
  refine ⟨by rw [n13]; exact iN, fun s20 e20 => ?_⟩
  rw [n13, s1 _ _ _ _ p2 p3] at e20
  have n20 : s20 61 11 = σ 61 11 := by rw [e20, up_n _ _ _ (by decide)]; exact n13
  refine ⟨by rw [n20]; exact iN, fun s23 e23 => ?_⟩
  rw [n20, s1 _ _ _ _ p2 p3] at e23
  have n23 : s23 61 11 = σ 61 11 := by rw [e23, up_n _ _ _ (by decide)]; exact n20
  have r71 : s23 71 = σ 71 := by
    rw [e23, up_n _ _ _ (by decide), e20, up_n _ _ _ (by decide), e13, up_n _ _ _ (by decide), e10, up_n _ _ _ (by decide)]
  have fin : ∀ (d : Int) (s32 : St), d = (if σ 79 x1 = -1 then 0 else σ 71 (σ 79 x1) + 1) → s32 = up s23 71 (σ 61 11) d → (pre_X4_set 72 100 (s32 61 11) 0 s32 ∧ (∀ s35 : St, s35 = eff_X4_set 72 100 (s32 61 11) 0 s32 → (pre_X4_set 74 100 (s35 61 11) (-1) s35 ∧ (∀ s38 : St, s38 = eff_X4_set 74 100 (s35 61 11) (-1) s35 → (∀ s40 : St, s40 = up s38 61 11 ((s38 61 11) + 1) → post_X3_addNode x1 σ s40))))) := by
    intro d s32 ed e32
    have n32 : s32 61 11 = σ 61 11 := by rw [e32, up_n _ _ _ (by decide)]; exact n23
    refine ⟨by rw [n32]; exact iN, fun s35 e35 => ?_⟩
    rw [n32, s1 _ _ _ _ p2 p3] at e35
    have n35 : s35 61 11 = σ 61 11 := by rw [e35, up_n _ _ _ (by decide)]; exact n32
    refine ⟨by rw [n35]; exact iN, fun s38 e38 s40 e40 => ?_⟩
    rw [n35, s1 _ _ _ _ p2 p3] at e38
    have n38 : s38 61 11 = σ 61 11 := by rw [e38, up_n _ _ _ (by decide)]; exact n35
    show s40 = eff_X3_addNode x1 σ
    rw [e40, n38, e38, e35, e32, ed, e23, e20, e13, e10, e3, e7, e17]
    rfl
  refine ⟨⟨by omega, by omega⟩, fun a => ⟨⟨by omega, by omega⟩, fun r29 e29 => ⟨by rw [n23]; exact iN, fun s32 e32 => ?_⟩⟩, fun a => ⟨by rw [n23]; exact iN, fun s32 e32 => ?_⟩⟩
  · rw [n23, s1 _ _ _ _ p2 p3] at e32
    rw [q1 _ _ _ (by omega) (by omega)] at e29
    refine fin (r29 + 1) s32 ?_ e32
    rw [if_neg (by rw [← e7]; exact a), e29, e7]
    show s23 71 _ + 1 = _
    rw [r71]
  · rw [n23, s1 _ _ _ _ p2 p3] at e32
    refine fin 0 s32 ?_ e32
    rw [if_pos (by rw [← e7]; exact a)]
theorem l_X5_numberBetween (σ : St) (x1 x2 : Int) (hp : pre_X5_numberBetween x1 x2 σ) (Q : Int → St → Prop) (hQ : Q (nb (σ 3) x1 (x2 - x1).toNat) σ) : ∀ (n : Nat) (v p : Int), (x2 - p).toNat < n → x1 ≤ p → p ≤ x2 → v = nb (σ 3) x1 (p - x1).toNat → L_X5_numberBetween_5 Q x2 n v p σ := by
  obtain ⟨p0, p1, p2, p3, p4⟩ := hp
  intro n
  induction n with
  | zero => intro v p hn; exact absurd hn (Nat.not_lt_zero _)
  | succ n ih =>
    intro v p hn h0 h1 hv
    have vb := nb_b (σ 3) x1 (p - x1).toNat
    rw [← hv] at vb
    refine ⟨⟨by omega, by omega⟩, ⟨by omega, by omega⟩, fun c => ?_, fun c => ⟨⟨by omega, by omega, by omega, by omega⟩, fun r er => ?_⟩⟩
    · rw [hv, show p = x2 by omega]
      exact hQ
    · have er : r = σ 3 p := by rw [er]; exact if_pos (by omega)
      have db := p4 p h0 (by omega)
      rw [← er] at db
      refine ⟨⟨by omega, by omega⟩, ih _ (p + 1) (by omega) (by omega) (by omega) ?_⟩
      obtain ⟨m, hm⟩ : ∃ m : Nat, (p - x1).toNat = m := ⟨_, rfl⟩
      rw [show (p + 1 - x1).toNat = m + 1 by omega]
      show _ = (nb (σ 3) x1 m * 10 + σ 3 (x1 + m) - 48) % 1000000
      rw [hv, hm, er, show x1 + (m : Int) = p by omega]
theorem v_X5_numberBetween (x1 x2 : Int) (σ : St) (hp : pre_X5_numberBetween x1 x2 σ) : V_X5_numberBetween x1 x2 σ (post_X5_numberBetween x1 x2 σ) := by
  obtain ⟨p0, p1, p2, p3, p4⟩ := id hp
  exact ⟨(x2 - x1).toNat + 1, l_X5_numberBetween σ x1 x2 hp _ ⟨rfl, rfl⟩ _ 0 x1 (by omega) (by omega) (by omega) (by rw [show (x1 - x1).toNat = 0 by omega]; rfl)⟩
theorem CW_keep {g : Gr} {T : Tb} {σ0 σ : St} {j r : Int} {x : Int × Int} {n : Nat} (h : CW g T σ0 j r x n σ) : σ 1 = σ0 1 ∧ σ 3 = σ0 3 ∧ σ 5 = σ0 5 ∧ σ 7 = σ0 7 ∧ σ 9 = σ0 9 ∧ σ 54 = σ0 54 ∧ σ 56 = σ0 56 ∧ σ 58 = σ0 58 ∧ σ 60 = σ0 60 ∧ σ 61 = σ0 61 ∧ σ 63 = σ0 63 ∧ σ 65 = σ0 65 :=
  ⟨h.1 1 (by decide) (by decide) (by decide) (by decide), h.1 3 (by decide) (by decide) (by decide) (by decide), h.1 5 (by decide) (by decide) (by decide) (by decide), h.1 7 (by decide) (by decide) (by decide) (by decide), h.1 9 (by decide) (by decide) (by decide) (by decide), h.1 54 (by decide) (by decide) (by decide) (by decide), h.1 56 (by decide) (by decide) (by decide) (by decide), h.1 58 (by decide) (by decide) (by decide) (by decide), h.1 60 (by decide) (by decide) (by decide) (by decide), h.1 61 (by decide) (by decide) (by decide) (by decide), h.1 63 (by decide) (by decide) (by decide) (by decide), h.1 65 (by decide) (by decide) (by decide) (by decide)⟩
theorem MB_rows {s σ : St} (h : MB σ) (h54 : s 54 = σ 54) (h56 : s 56 = σ 56) (h58 : s 58 = σ 58) (h60 : s 60 = σ 60) : MB s := by
  unfold MB
  rw [h54, h56, h58, h60]
  exact h
theorem cg_rows {s σ : St} (h1 : s 1 = σ 1) (h3 : s 3 = σ 3) (h5 : s 5 = σ 5) (h7 : s 7 = σ 7) (h9 : s 9 = σ 9) : cg s 1 = cg σ 1 := by
  unfold cg
  rw [h1, h3, h5, h7, h9]
theorem l_X3_walkWater (σ : St) (x1 x2 x3 : Int) (hp : pre_X3_walkWater x1 x2 x3 σ) (Q : Int → St → Prop) (hQ : ∀ r s, post_X3_walkWater x1 x2 x3 σ r s → Q r s) : ∀ (n : Nat) (p k : Int) (s : St), (101 - k).toNat < n → 0 ≤ k → x3 + k ≤ p → s 75 = σ 75 → (∃ m, CW (cg σ 1) (ct σ) σ x1 (σ 63 x1) (x2, x3) m s ∧ tr (cg σ 1) (ct σ) (σ 63 x1) (x2, x3) m = (x2, p)) → L_X3_walkWater_16 Q x1 x2 (σ 63 x1) n p k s := by
  obtain ⟨p0, p1, r0, r1, p2, p3, p4, p5, p6, p7, hM, hW, hG, hF⟩ := id hp
  obtain ⟨⟨t0, t1⟩, hT, hR⟩ := cgW hW
  have gz : gs (cg σ 1) (σ 63 x1) = σ 5 (σ 63 x1) := cg_s r0 r1
  have zz := (hR _ r0 r1).1
  intro n
  induction n with
  | zero => intro p k s hn; exact absurd hn (Nat.not_lt_zero _)
  | succ n ih =>
    intro p k s hn hk hpk h75 hm
    obtain ⟨m, hC, ht⟩ := hm
    obtain ⟨k1, k3, k5, k7, k9, k54, k56, k58, k60, k61, k63, k65⟩ := CW_keep hC
    have cts : ct s = ct σ := ct_row k60
    have tk := tg_ok hW hG (x := (x2, x3)) ⟨r0, r1⟩ ⟨p2, by dsimp only; omega⟩ ⟨by dsimp only; omega, by rw [cg_L]; exact p6⟩ rfl p7 m
    rw [ht] at tk
    dsimp only at tk
    rw [cg_L] at tk
    have ok := nx_ok hW hG (x := (x2, p)) ⟨r0, r1⟩ ⟨p2, by dsimp only; omega⟩ ⟨by dsimp only; omega, by rw [cg_L]; dsimp only; omega⟩ tk.2.2 p7
    obtain ⟨b1, b2, b3, b4, b5, b6, b7, b8⟩ := ok.2 p3
    have mon : ∀ k, k < m → emc (cg σ 1) (ct σ) (σ 63 x1) (tr (cg σ 1) (ct σ) (σ 63 x1) (x2, x3) k) ≠ -1 → (tr (cg σ 1) (ct σ) (σ 63 x1) (x2, x3) k).2 < (tr (cg σ 1) (ct σ) (σ 63 x1) (x2, x3) m).2 := fun k hk he => tg_ch hW hG (x := (x2, x3)) ⟨r0, r1⟩ ⟨p2, by dsimp only; omega⟩ ⟨by dsimp only; omega, by rw [cg_L]; exact p6⟩ rfl p7 hk he
    have ni : ¬ gs (cg σ 1) (σ 63 x1) ≤ x2 := by omega
    refine ⟨⟨by omega, by omega⟩, fun c => absurd c (by omega), fun c => ⟨⟨r0, by omega, by omega, by omega, by omega, by omega, MB_rows hM k54 k56 k58 k60⟩, fun r10 e10 => ?_⟩⟩
    have e10 : r10 = if ¬ ct σ (σ 63 x1) (x2 + 1) p = -1 then 1 else 0 := by
      rw [e10]
      show (if ¬ tget s (σ 63 x1) (x2 + 1) p = -1 then (1 : Int) else 0) = _
      rw [tget_nn (by omega), cts]
    by_cases a : ¬ ct σ (σ 63 x1) (x2 + 1) p = -1
    · rw [if_pos a] at e10
      have ec : emc (cg σ 1) (ct σ) (σ 63 x1) (x2, p) = -1 := by
        unfold emc
        dsimp only
        rw [if_neg ni, if_pos p4, if_pos a]
      have ew : emw (cg σ 1) (ct σ) (σ 63 x1) (x2, p) = 0 := by
        unfold emw
        dsimp only
        rw [if_neg ni, if_pos p4, if_pos a]
      have en : nx (cg σ 1) (ct σ) (σ 63 x1) (x2, p) = (x2 + 1, p) := by
        unfold nx
        dsimp only
        rw [if_neg ni, if_pos p4, if_pos a]
      refine ⟨by rw [e10]; exact ⟨by decide, by decide⟩, fun z => absurd (e10.symm.trans z) (by decide), fun _ => hQ _ _ ⟨h75, m + 1, CW_none hC (by rw [ht]; exact ec) (by rw [ht]; exact ew), ?_⟩⟩
      show nx _ _ _ (tr _ _ _ _ m) = _
      rw [ht, en]
    · rw [if_neg a] at e10
      have a' : ¬ ct σ (σ 63 x1) (x2 + 1) p ≠ -1 := a
      refine ⟨by rw [e10]; exact ⟨by decide, by decide⟩, fun _ => ⟨⟨by omega, by omega⟩, fun r16 e16 => ?_⟩, fun z => absurd e10 z⟩
      have e16 : r16 = first (ct σ) p := by
        rw [e16]
        show (if 0 ≤ p ∧ p < 101 then s 58 p else -1) = _
        rw [if_pos (by omega), k58]
        exact (hF p (by omega) (by omega)).1
      have fr := first_rng (ct σ) p
      rw [← e16] at fr
      refine ⟨⟨by omega, by omega⟩, fun b => ?_, fun b => ?_⟩
      · have fb : first (ct σ) p ≠ -1 := by rw [← e16]; exact b
        have ec : emc (cg σ 1) (ct σ) (σ 63 x1) (x2, p) = r16 := by
          unfold emc
          dsimp only
          rw [if_neg ni, if_pos p4, if_neg a', e16]
        have ew : emw (cg σ 1) (ct σ) (σ 63 x1) (x2, p) = 0 := by
          unfold emw
          dsimp only
          rw [if_neg ni, if_pos p4, if_neg a', if_pos fb]
        have en : nx (cg σ 1) (ct σ) (σ 63 x1) (x2, p) = (x2, ct σ r16 0 p) := by
          unfold nx
          dsimp only
          rw [if_neg ni, if_pos p4, if_neg a', if_pos fb, e16]
        rw [ec] at b7
        obtain ⟨d1, d2, d3, d4⟩ := b7 b
        rw [en] at d4 b2
        dsimp only at d4 b2
        rw [cg_L] at b2
        refine ⟨⟨by omega, by omega⟩, fun s20 e20 => ⟨⟨by omega, by omega, by omega, by omega⟩, fun r25 e25 => ?_⟩⟩
        have e20 : s20 = up (up s 77 p r16) 79 p x1 := e20
        have e25 : r25 = ct σ r16 0 p := by
          rw [e25]
          show tget s20 r16 0 p = _
          rw [tget_nn (by omega), ct_row (show s20 60 = s 60 by rw [e20, up_n _ _ _ (by decide), up_n _ _ _ (by decide)]), cts]
        refine ih r25 (k + 1) s20 (by omega) (by omega) (by omega) (by rw [e20, up_n _ _ _ (by decide), up_n _ _ _ (by decide)]; exact h75) ⟨m + 1, ?_, ?_⟩
        · have h := CW_child hC (by rw [ht]; exact ew) (by rw [ht, ec]; exact b) mon
          rw [ht, ec] at h
          rw [e20]
          exact h
        · show nx _ _ _ (tr _ _ _ _ m) = _
          rw [ht, en, e25]
      · have fb : ¬ first (ct σ) p ≠ -1 := by rw [← e16]; exact fun z => z b
        have ec : emc (cg σ 1) (ct σ) (σ 63 x1) (x2, p) = -1 := by
          unfold emc
          dsimp only
          rw [if_neg ni, if_pos p4, if_neg a', ← e16, b]
        have ew : emw (cg σ 1) (ct σ) (σ 63 x1) (x2, p) = 1 := by
          unfold emw
          dsimp only
          rw [if_neg ni, if_pos p4, if_neg a', if_neg fb]
        have en : nx (cg σ 1) (ct σ) (σ 63 x1) (x2, p) = (x2, p + 1) := by
          unfold nx
          dsimp only
          rw [if_neg ni, if_pos p4, if_neg a', if_neg fb]
        refine ⟨⟨by omega, by omega⟩, fun r29 e29 => ⟨⟨by omega, by omega⟩, fun s31 e31 => ?_⟩⟩
        have e29 : r29 = s 73 x1 := by rw [e29]; exact if_pos ⟨p0, by omega⟩
        have e31 : s31 = up s 73 x1 (s 73 x1 + 1) := by rw [e31, e29]; exact if_pos ⟨p0, by omega⟩
        refine ih (p + 1) (k + 1) s31 (by omega) (by omega) (by omega) (by rw [e31, up_n _ _ _ (by decide)]; exact h75) ⟨m + 1, ?_, ?_⟩
        · rw [e31]
          exact CW_water hC (by rw [ht]; exact ec) (by rw [ht]; exact ew)
        · show nx _ _ _ (tr _ _ _ _ m) = _
          rw [ht, en]
theorem v_X3_walkWater (x1 x2 x3 : Int) (σ : St) (hp : pre_X3_walkWater x1 x2 x3 σ) : V_X3_walkWater x1 x2 x3 σ (post_X3_walkWater x1 x2 x3 σ) := by
  obtain ⟨p0, p1, r0, r1, p2, p3, p4, p5, p6, p7, hM, hW, hG, hF⟩ := id hp
  refine ⟨⟨by omega, by omega⟩, fun r4 e4 => ?_⟩
  have e4 : r4 = σ 63 x1 := by rw [e4]; exact if_pos ⟨p0, by omega⟩
  rw [e4]
  exact ⟨102, l_X3_walkWater σ x1 x2 x3 hp _ (fun r s h => h) 102 x3 0 σ (by decide) (by decide) (by omega) rfl ⟨0, CW_0 _ _ _ _ _ _, rfl⟩⟩
