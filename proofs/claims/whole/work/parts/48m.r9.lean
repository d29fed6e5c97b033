theorem up_up (σ : St) (k : Nat) (i v w : Int) : up (up σ k i v) k i w = up σ k i w := by
  funext q
  by_cases h : q = k
  · subst h
    rw [up_s, up_s, up_s, ui_ui]
  · rw [up_n _ _ _ h, up_n _ _ _ h, up_n _ _ _ h]
theorem mix_H (σ : St) (h x : Int) : eff_X7_mix x (up σ 80 16 h) = up σ 80 16 (31 * h + x) := by
  show up (up σ 80 16 h) 80 16 (31 * up σ 80 16 h 80 16 + x) = _
  rw [up_up, up_s, ui_s]
theorem H_j (σ : St) (h : Int) {j : Int} (hj : j ≠ 16) : up σ 80 16 h 80 j = σ 80 j := by rw [up_s, ui_n _ _ hj]
theorem H_q (σ : St) (h : Int) {q : Nat} (hq : q ≠ 80) : up σ 80 16 h q = σ q := up_n _ _ _ hq
theorem QP.H {σ : St} (hq : QP σ) (h : Int) : QP (up σ 80 16 h) := by
  obtain ⟨⟨h1, h2, h3, h4⟩, h5, h6⟩ := hq
  have cts : ct (up σ 80 16 h) = ct σ := ct_row (H_q σ h (by decide))
  refine ⟨⟨by rw [H_q σ h (by decide)]; exact h1, by unfold M8; rw [H_q σ h (by decide)]; exact h2, h3.keep (fun q a b c d e => Or.inl (H_q σ h (by omega))), by rw [cg_congr (fun q a b => H_q σ h (by omega)), H_q σ h (by decide)]; exact h4⟩, MC_rows h5 (H_q σ h (by decide)) (H_q σ h (by decide)) (H_q σ h (by decide)), ?_⟩
  unfold FP
  rw [cts, H_j σ h (by decide), H_j σ h (by decide), H_j σ h (by decide), H_j σ h (by decide), H_q σ h (show 81 ≠ 80 by decide), H_q σ h (show 86 ≠ 80 by decide), H_q σ h (show 87 ≠ 80 by decide), H_q σ h (show 88 ≠ 80 by decide), H_q σ h (show 89 ≠ 80 by decide), H_q σ h (show 90 ≠ 80 by decide)]
  exact h6
theorem l_X7_mixRules2 (σ : St) (hW : gWF (mg (σ 81) 0)) (Q : St → Prop) (K : St → Prop) (m : Nat) (hm : (m : Int) < 6) (h0 : Int) (hK : K (up σ 80 16 (mixr (fun i => σ 81 (107 + 8 * (m : Int) + i)) h0 (σ 81 (101 + (m : Int))).toNat))) : ∀ (n i : Nat) (s : St), 9 - i < n → (i : Int) ≤ σ 81 (101 + (m : Int)) → s = up σ 80 16 (mixr (fun i => σ 81 (107 + 8 * (m : Int) + i)) h0 i) → L_X7_mixRules_23 Q K (m : Int) n (i : Int) s := by
  obtain ⟨⟨t0, t1⟩, hT, hR⟩ := mgW hW
  obtain ⟨⟨z0, z1⟩, zs, ze, zf⟩ := hR (m : Int) (by omega) hm
  intro n
  induction n with
  | zero => intro i s hn; exact absurd hn (Nat.not_lt_zero _)
  | succ n ih =>
    intro i s hn hi hs
    have k81 : s 81 = σ 81 := by rw [hs]; exact H_q _ _ (by decide)
    refine ⟨⟨by omega, by omega⟩, ⟨by omega, by omega⟩, by rw [k81]; exact ⟨by omega, by omega⟩, fun c => ?_, fun c => ?_⟩
    · rw [k81] at c
      rw [hs, show i = (σ 81 (101 + (m : Int))).toNat by omega]
      exact hK
    · rw [k81] at c
      refine ⟨⟨by omega, hm, by omega, by omega⟩, fun r14 e14 => ?_⟩
      have e14 : r14 = σ 81 (107 + 8 * (m : Int) + i) := by rw [e14]; show s 81 _ = _; rw [k81]
      have := ze (i : Int) (by omega) (by omega)
      refine ⟨⟨by omega, by omega⟩, fun s16 e16 => ?_⟩
      have := ih (i + 1) s16 (by omega) (by omega) (by
        rw [e16, hs, mix_H, e14]
        rfl)
      rw [show ((i + 1 : Nat) : Int) = (i : Int) + 1 by omega] at this
      exact this
theorem l_X7_mixRules (σ : St) (hW : gWF (mg (σ 81) 0)) (h0 : Int) (Q : St → Prop) (hQ : Q (up σ 80 16 (mixR (fun r => σ 81 (101 + r)) (fun r i => σ 81 (107 + 8 * r + i)) (fun r => σ 81 (155 + r)) h0 6))) : ∀ (n m : Nat) (s : St), 6 - m < n → m ≤ 6 → s = up σ 80 16 (mixR (fun r => σ 81 (101 + r)) (fun r i => σ 81 (107 + 8 * r + i)) (fun r => σ 81 (155 + r)) h0 m) → L_X7_mixRules_2 Q n (m : Int) s := by
  obtain ⟨⟨t0, t1⟩, hT, hR⟩ := mgW hW
  intro n
  induction n with
  | zero => intro m s hn; exact absurd hn (Nat.not_lt_zero _)
  | succ n ih =>
    intro m s hn hm hs
    have k81 : s 81 = σ 81 := by rw [hs]; exact H_q _ _ (by decide)
    refine ⟨⟨by omega, by omega⟩, fun c => ?_, fun c => ?_⟩
    · rw [hs, show m = 6 by omega]
      exact hQ
    · obtain ⟨⟨z0, z1⟩, zs, ze, zf⟩ := hR (m : Int) (by omega) (by omega)
      refine ⟨⟨by omega, by omega⟩, by rw [k81]; exact ⟨by omega, by omega⟩, fun s5 e5 => ⟨10, ?_⟩⟩
      have e5 : s5 = up σ 80 16 (31 * mixR (fun r => σ 81 (101 + r)) (fun r i => σ 81 (107 + 8 * r + i)) (fun r => σ 81 (155 + r)) h0 m + σ 81 (101 + (m : Int))) := by rw [e5, k81, hs, mix_H]
      have := l_X7_mixRules2 σ hW Q (fun s18 => (((0 : Int) ≤ (155 + (m : Int)) ∧ ((155 + (m : Int)) : Int) < 161) ∧ (pre_X7_mix (s18 81 (155 + (m : Int))) s18 ∧ (∀ s21 : St, s21 = eff_X7_mix (s18 81 (155 + (m : Int))) s18 → L_X7_mixRules_2 Q n ((m : Int) + 1) s21)))) m (by omega) (31 * mixR (fun r => σ 81 (101 + r)) (fun r i => σ 81 (107 + 8 * r + i)) (fun r => σ 81 (155 + r)) h0 m + σ 81 (101 + (m : Int))) ?_ 10 0 s5 (by omega) z0 e5
      · exact this
      · refine ⟨⟨by omega, by omega⟩, ?_, fun s21 e21 => ?_⟩
        · rw [H_q _ _ (show 81 ≠ 80 by decide)]
          exact ⟨by omega, by omega⟩
        · have := ih (m + 1) s21 (by omega) (by omega) (by
            rw [e21, H_q _ _ (show 81 ≠ 80 by decide), mix_H]
            rfl)
          rw [show ((m + 1 : Nat) : Int) = (m : Int) + 1 by omega] at this
          exact this
theorem v_X7_mixRules (σ : St) (hp : pre_X7_mixRules σ) : V_X7_mixRules σ (post_X7_mixRules σ) := by
  refine ⟨7, l_X7_mixRules σ hp (σ 80 16) (post_X7_mixRules σ) rfl 7 0 σ (by decide) (by decide) ?_⟩
  show σ = up σ 80 16 (σ 80 16)
  funext q
  by_cases h : q = 80
  · subst h
    rw [up_s, ui_id]
  · rw [up_n _ _ _ h]
theorem atN_H {σ : St} {h f j : Int} : atN (up σ 80 16 h) f j ↔ atN σ f j := by
  unfold atN
  rw [H_j _ _ (by decide), H_q _ _ (show 61 ≠ 80 by decide), H_q _ _ (show 65 ≠ 80 by decide), H_q _ _ (show 87 ≠ 80 by decide)]
theorem l_X7_digest2 (σ : St) (hq : QP σ) (h0 : Int) (Q : Int → St → Prop) (hQ : Q (31 * (31 * mixN σ h0 (σ 61 11).toNat + σ 61 13) + σ 61 15) (up σ 80 16 (31 * (31 * mixN σ h0 (σ 61 11).toNat + σ 61 13) + σ 61 15))) : ∀ (n m : Nat) (s : St), (σ 61 11).toNat - m < n → (m : Int) ≤ σ 61 11 → s = up σ 80 16 (mixN σ h0 m) → L_X7_digest_111 Q n (m : Int) s := by
  obtain ⟨a1, a2, a3, a4, a5, a6, a7, a8, a9⟩ := hq.all
  have rg := hq.rng
  have fr := hq.1.2.2.1.rng
  intro n
  induction n with
  | zero => intro m s hn; exact absurd hn (Nat.not_lt_zero _)
  | succ n ih =>
    intro m s hn hm hs
    have j12 : s 80 12 = σ 80 12 := by rw [hs]; exact H_j _ _ (by decide)
    have j14 : s 80 14 = σ 61 13 := by rw [hs, H_j _ _ (by decide)]; exact a9.2.1
    have hqs : QP s := by rw [hs]; exact hq.H _
    have k61 : s 61 = σ 61 := by rw [hs]; exact H_q _ _ (by decide)
    refine ⟨⟨by omega, by omega⟩, ⟨by omega, by omega⟩, fun c => ?_, fun c => ?_⟩
    · refine ⟨⟨by omega, by omega⟩, fun s36 e36 => ?_⟩
      rw [j14, hs, mix_H] at e36
      have j15 : s36 80 15 = σ 61 15 := by rw [e36, H_j _ _ (by decide)]; exact a9.2.2
      refine ⟨⟨by omega, by omega⟩, fun s39 e39 => ?_⟩
      rw [j15, e36, mix_H] at e39
      rw [e39, up_s, ui_s, show m = (σ 61 11).toNat by omega]
      exact hQ
    · refine ⟨⟨hqs, by omega, by rw [k61]; omega⟩, fun r44 s42 hpost => ?_⟩
      obtain ⟨e42, hat⟩ := hpost
      rw [e42]
      rw [hs, atN_H] at hat
      clear e42
      have k := hat.1
      obtain ⟨b1, b2, b3, b4, b5⟩ := a6 _ _ hat
      have rl : (0 : Int) ≤ r44 ∧ (r44 : Int) < 100 := ⟨k.1, by omega⟩
      have rf := rg.1 r44 k.1 k.2
      have rc := rg.2 (m : Int) (by omega) (by omega)
      have s86 : s 86 r44 = σ 63 m := by rw [hs, H_q _ _ (by decide)]; exact b1
      refine ⟨rl, by rw [s86]; exact ⟨by omega, by omega⟩, fun s47 e47 => ?_⟩
      rw [s86, hs, mix_H] at e47
      have s87 : s47 87 r44 = σ 65 m := by rw [e47, H_q _ _ (by decide)]; exact hat.2.2.symm
      refine ⟨rl, by rw [s87]; exact ⟨by omega, by omega⟩, fun s51 e51 => ?_⟩
      rw [s87, e47, mix_H] at e51
      have s51r : s51 86 r44 = σ 86 r44 ∧ s51 87 r44 = σ 87 r44 := by rw [e51, H_q _ _ (by decide), H_q _ _ (by decide)]; exact ⟨rfl, rfl⟩
      refine ⟨⟨rl.1, rl.2, by rw [s51r.1]; omega, by rw [s51r.1]; omega, by rw [s51r.2]; omega, by rw [s51r.2]; omega⟩, fun r56 e56 => ?_⟩
      have e56 : r56 = σ 67 m := by
        rw [e56]
        show mt s51 (s51 86 r44) 0 (s51 87 r44) = _
        rw [s51r.1, s51r.2, ← b4]
        show s51 85 _ = σ 85 _
        rw [e51, H_q _ _ (by decide)]
      refine ⟨by rw [e56]; exact ⟨by omega, by omega⟩, fun s58 e58 => ?_⟩
      rw [e56, e51, mix_H] at e58
      have hq58 : QP s58 := by rw [e58]; exact hq.H _
      have j12' : s58 80 12 = σ 80 12 := by rw [e58]; exact H_j _ _ (by decide)
      refine ⟨⟨hq58, k.1, by omega⟩, fun r63 s61 hpost => ?_⟩
      obtain ⟨e61, h63⟩ := hpost
      have e63 : r63 = σ 69 m := by
        rw [h63 (m : Int) (by rw [e58, atN_H]; exact hat), e58, H_q _ _ (by decide)]
      rw [e61]
      clear e61
      refine ⟨by rw [e63]; exact ⟨by omega, by omega⟩, fun s65 e65 => ?_⟩
      rw [e63, e58, mix_H] at e65
      have s89 : s65 89 r44 = σ 73 m := by rw [e65, H_q _ _ (by decide)]; exact b2
      refine ⟨rl, by rw [s89]; exact ⟨by omega, by omega⟩, fun s69 e69 => ?_⟩
      rw [s89, e65, mix_H] at e69
      have s90 : s69 90 r44 = σ 75 m := by rw [e69, H_q _ _ (by decide)]; exact b3
      refine ⟨rl, by rw [s90]; exact ⟨by omega, by omega⟩, fun s73 e73 => ?_⟩
      rw [s90, e69, mix_H] at e73
      have := ih (m + 1) s73 (by omega) (by omega) (by rw [e73]; rfl)
      rw [show ((m + 1 : Nat) : Int) = (m : Int) + 1 by omega] at this
      exact this
theorem l_X7_digest1 (σ : St) (hq : QP σ) (h0 : Int) (Q : Int → St → Prop) (hQ : ∀ s, s = up σ 80 16 (mixR (fun r => σ 81 (101 + r)) (fun r i => σ 81 (107 + 8 * r + i)) (fun r => σ 81 (155 + r)) (mixr (fun k => σ 81 (1 + k)) h0 (σ 81 0).toNat) 6) → (pre_X7_mix (s 80 12) s ∧ (∀ s30 : St, s30 = eff_X7_mix (s 80 12) s → (∃ n, L_X7_digest_111 Q n 0 s30)))) : ∀ (n m : Nat) (s : St), (σ 81 0).toNat - m < n → (m : Int) ≤ σ 81 0 → s = up σ 80 16 (mixr (fun k => σ 81 (1 + k)) h0 m) → L_X7_digest_69 Q n (m : Int) s := by
  have hW := hq.1.1
  obtain ⟨⟨t0, t1⟩, hT, hR⟩ := mgW hW
  intro n
  induction n with
  | zero => intro m s hn; exact absurd hn (Nat.not_lt_zero _)
  | succ n ih =>
    intro m s hn hm hs
    have k81 : s 81 = σ 81 := by rw [hs]; exact H_q _ _ (by decide)
    refine ⟨⟨by omega, by omega⟩, by rw [k81]; exact ⟨by omega, by omega⟩, fun c => ?_, fun c => ?_⟩
    · rw [k81] at c
      refine ⟨?_, fun s27 e27 => hQ s27 ?_⟩
      · show gWF (mg (s 81) 0)
        rw [k81]
        exact hW
      · rw [e27]
        show up s 80 16 (mixR (fun r => s 81 (101 + r)) (fun r i => s 81 (107 + 8 * r + i)) (fun r => s 81 (155 + r)) (s 80 16) 6) = _
        rw [k81, hs, up_up, up_s, ui_s, show m = (σ 81 0).toNat by omega]
    · rw [k81] at c
      have := hT (m : Int) (by omega) (by omega)
      refine ⟨⟨by omega, by omega⟩, by rw [k81]; exact ⟨by omega, by omega⟩, fun s77 e77 => ?_⟩
      have := ih (m + 1) s77 (by omega) (by omega) (by
        rw [e77, k81, hs, mix_H]
        rfl)
      rw [show ((m + 1 : Nat) : Int) = (m : Int) + 1 by omega] at this
      exact this
theorem v_X7_digest (σ : St) (hp : pre_X7_digest σ) : V_X7_digest σ (post_X7_digest σ) := by
  obtain ⟨hR, i4, i2, i84⟩ := hp
  refine ⟨hR, fun s hPP => ?_⟩
  have hq := hPP.q
  obtain ⟨a1, a2, a3, a4, a5, a6, a7, a8, a9⟩ := hq.all
  obtain ⟨⟨t0, t1⟩, hT, hR'⟩ := mgW hq.1.1
  have k81 : s 81 = σ 81 := hPP.1 81 (by decide) (by decide) (by decide) (by decide) (by decide) (by decide) (by decide)
  have k84 : s 84 = σ 84 := hPP.1 84 (by decide) (by decide) (by decide) (by decide) (by decide) (by decide) (by decide)
  have j4 : s 80 4 = σ 80 4 := hPP.2.1 4 (by decide) (by decide) (by decide) (by decide)
  have j2 : s 80 2 = σ 80 2 := hPP.2.1 2 (by decide) (by decide) (by decide) (by decide)
  refine fun s4 e4 => ?_
  have q84 : ∀ h, up s 80 16 h 84 = σ 84 := fun h => by rw [H_q _ _ (by decide)]; exact k84
  refine ⟨by rw [e4, q84]; exact i84 0 (by decide) (by decide), fun s6 e6 => ?_⟩
  rw [e4, q84, mix_H] at e6
  refine ⟨by rw [e6, q84]; exact i84 1 (by decide) (by decide), fun s9 e9 => ?_⟩
  rw [e6, q84, mix_H] at e9
  refine ⟨by rw [e9, q84]; exact i84 2 (by decide) (by decide), fun s12 e12 => ?_⟩
  rw [e9, q84, mix_H] at e12
  have f4 : s12 80 4 = σ 80 4 := by rw [e12, H_j _ _ (by decide)]; exact j4
  refine ⟨by rw [f4]; exact i4, fun s15 e15 => ?_⟩
  rw [f4, e12, mix_H] at e15
  have f2 : s15 80 2 = σ 80 2 := by rw [e15, H_j _ _ (by decide)]; exact j2
  refine ⟨by rw [f2]; exact i2, fun s18 e18 => ?_⟩
  rw [f2, e15, mix_H] at e18
  have f81 : s18 81 = s 81 := by rw [e18]; exact H_q _ _ (by decide)
  refine ⟨by rw [f81]; exact ⟨by omega, by omega⟩, fun s21 e21 => ⟨(s 81 0).toNat + 1, ?_⟩⟩
  rw [f81, e18, mix_H] at e21
  refine l_X7_digest1 s hq _ _ (fun s27 e27 => ?_) ((s 81 0).toNat + 1) 0 s21 (by omega) t0 e21
  have j12 : s27 80 12 = s 61 11 := by rw [e27, H_j _ _ (by decide)]; exact a3
  refine ⟨by rw [j12]; exact ⟨by omega, by omega⟩, fun s30 e30 => ⟨(s 61 11).toNat + 1, ?_⟩⟩
  rw [j12, e27, mix_H] at e30
  refine l_X7_digest2 s hq _ _ ⟨s, hPP, rfl, ?_⟩ ((s 61 11).toNat + 1) 0 s30 (by omega) a2.1 e30
  rw [k81]
  rfl
