theorem MS_of {σ s : St} (h : ∀ q, q < 61 ∨ 80 ≤ q → s q = σ q) : cg s 1 = cg σ 1 ∧ ct s = ct σ ∧ s 1 = σ 1 ∧ s 54 = σ 54 ∧ s 56 = σ 56 ∧ s 58 = σ 58 ∧ s 60 = σ 60 :=
  ⟨cg_congr (fun q a b => h q (by omega)), ct_row (h 60 (by decide)), h 1 (by decide), h 54 (by decide), h 56 (by decide), h 58 (by decide), h 60 (by decide)⟩
theorem l_X3_update (σ : St) (hp : pre_X3_update σ) (Q : St → Prop) (hQ : ∀ s, SI (cg σ 1) (ct σ) σ (σ 1 4) (σ 1 4) s → Q s) : ∀ (n : Nat) (z p : Int) (s : St), (σ 1 4 - p).toNat < n → 0 ≤ p → p ≤ σ 1 4 → z ≤ σ 1 4 → SI (cg σ 1) (ct σ) σ p z s → L_X3_update_16 Q (σ 1 4) n z p s := by
  obtain ⟨hM, hW, hG, hF⟩ := id hp
  obtain ⟨⟨t0, t1⟩, hT, hR⟩ := cgW hW
  -- the node step, behind the top level
  have add : ∀ (n : Nat) (ih : ∀ (z p : Int) (s : St), (σ 1 4 - p).toNat < n → 0 ≤ p → p ≤ σ 1 4 → z ≤ σ 1 4 → SI (cg σ 1) (ct σ) σ p z s → L_X3_update_16 Q (σ 1 4) n z p s) (z p : Int) (s : St), (σ 1 4 - p).toNat < n + 1 → 0 ≤ p → p < σ 1 4 → p < z → z ≤ σ 1 4 → SI (cg σ 1) (ct σ) σ p z s →
      (pre_X4_get 76 100 p s ∧ (∀ r16 : Int, r16 = ans_X4_get 76 100 p s → (inR r16 ∧ ((r16 = (-1) → L_X3_update_16 Q (σ 1 4) n z (p + 1) s) ∧ (¬ (r16 = (-1)) → (pre_X3_addNode p s ∧ (∀ s20 : St, s20 = eff_X3_addNode p s → (pre_X3_walkPattern ((s20 61 11) - 1) s20 ∧ (∀ s23 : St, post_X3_walkPattern ((s20 61 11) - 1) s20 s23 → L_X3_update_16 Q (σ 1 4) n z (p + 1) s23))))))))) := by
    intro n ih z p s hn h0 hl hz hzl hI
    obtain ⟨i1, i2, i3, i4, i5, i6, i7, i8, i9⟩ := id hI
    obtain ⟨m1, m2, m3, m4, m5, m6, m7⟩ := MS_of i1
    refine ⟨⟨by omega, by omega⟩, fun r16 e16 => ?_⟩
    have e16 : r16 = s 77 p := by rw [e16]; exact if_pos ⟨h0, by omega⟩
    have rb : inR r16 := by
      by_cases c : s 77 p = -1
      · rw [e16, c]; exact ⟨by decide, by decide⟩
      · have := (i5 p (Int.le_refl p) (by omega) c).1
        rw [e16]
        exact ⟨by omega, by omega⟩
    refine ⟨rb, fun a => ih z (p + 1) s (by omega) (by omega) (by omega) hzl (SI_skip hI hz (by rw [← e16]; exact a)), fun a => ?_⟩
    have hd : s 77 p ≠ -1 := by rw [← e16]; exact a
    obtain ⟨k1, k2, k3, k4, k5⟩ := i5 p (Int.le_refl p) (by omega) hd
    have pb : -1 ≤ s 79 p ∧ s 79 p < 100 := by
      rcases k3 with ⟨w, -⟩ | ⟨w, -⟩ <;> omega
    refine ⟨⟨h0, by omega, i2.1, by omega, k1.1, by omega, pb.1, pb.2⟩, fun s20 e20 => ?_⟩
    have q11 : s20 61 11 = s 61 11 + 1 := by
      rw [e20]
      unfold eff_X3_addNode
      rw [up_s, ui_s]
    have q : s20 61 11 - 1 = s 61 11 := by omega
    have fo : ∀ q, q ≠ 61 → q ≠ 63 → q ≠ 65 → q ≠ 67 → q ≠ 69 → q ≠ 71 → q ≠ 73 → q ≠ 75 → s20 q = s q := fun q b1 b2 b3 b4 b5 b6 b7 b8 => by
      rw [e20]
      unfold eff_X3_addNode
      rw [up_n _ _ _ b1, up_n _ _ _ b8, up_n _ _ _ b7, up_n _ _ _ b6, up_n _ _ _ b5, up_n _ _ _ b4, up_n _ _ _ b3, up_n _ _ _ b2]
    have f20 : ∀ q, q < 61 ∨ 80 ≤ q → s20 q = σ q := fun q a => by
      rw [fo q (by omega) (by omega) (by omega) (by omega) (by omega) (by omega) (by omega) (by omega)]
      exact i1 q a
    obtain ⟨v1, v2, v3, v4, v5, v6, v7⟩ := MS_of f20
    have f63 : s20 63 (s 61 11) = s 77 p := by
      rw [e20]
      unfold eff_X3_addNode
      rw [up_n _ _ _ (by decide), up_n _ _ _ (by decide), up_n _ _ _ (by decide), up_n _ _ _ (by decide), up_n _ _ _ (by decide), up_n _ _ _ (by decide), up_n _ _ _ (by decide), up_s, ui_s]
    have f65 : s20 65 (s 61 11) = p := by
      rw [e20]
      unfold eff_X3_addNode
      rw [up_n _ _ _ (by decide), up_n _ _ _ (by decide), up_n _ _ _ (by decide), up_n _ _ _ (by decide), up_n _ _ _ (by decide), up_n _ _ _ (by decide), up_s, ui_s]
    have f75 : s20 75 (s 61 11) = -1 := by
      rw [e20]
      unfold eff_X3_addNode
      rw [up_n _ _ _ (by decide), up_s, ui_s]
    rw [q]
    refine ⟨⟨i2.1, by omega, by rw [f63]; exact k1.1, by rw [f63]; exact k1.2, by rw [f65]; exact h0, by rw [f65, v3]; omega, by rw [f63, f65, v2]; omega, f75, MB_rows hM v4 v5 v6 v7, by rw [v1]; exact hW, by rw [v1, v2]; exact hG, by rw [v3, v6, v4, v5, v1, v2]; exact hF⟩, fun s23 hpost => ?_⟩
    obtain ⟨⟨N, N1, N2⟩, vv, V1, V2⟩ := hpost
    rw [f63, f65, v1, v2] at N1 N2 V1
    exact ih z (p + 1) s23 (by omega) (by omega) (by omega) hzl (SI_add hW hG hI ⟨h0, by rw [cg_L]; exact hl⟩ hz (by rw [cg_L]; exact hzl) hd m2 e20 ⟨N, N1, N2⟩ ⟨vv, V1, V2⟩)
  intro n
  induction n with
  | zero => intro z p s hn; exact absurd hn (Nat.not_lt_zero _)
  | succ n ih =>
    intro z p s hn h0 hl hzl hI
    obtain ⟨i1, i2, i3, i4, i5, i6, i7, i8, i9⟩ := id hI
    obtain ⟨m1, m2, m3, m4, m5, m6, m7⟩ := MS_of i1
    refine ⟨⟨by omega, by omega⟩, ⟨by omega, by omega⟩, fun c => hQ s ?_, fun c => ⟨⟨by omega, by omega⟩, fun d => add n ih z p s hn h0 (by omega) (by omega) hzl hI, fun d => ?_⟩⟩
    · rw [show p = σ 1 4 by omega, show z = σ 1 4 by omega] at hI
      exact hI
    · have d : z = p := d.symm
      subst d
      obtain ⟨N, n1, n2, n3, n4, n5⟩ := i9
      have tb := tcn_b hW hG N
      have tpo := tp_ok hW hG N
      rw [cg_L] at tpo
      obtain ⟨T1, T2, T3⟩ := SI_top hW hG hI ⟨h0, by rw [cg_L]; omega⟩ (by rw [m6]; exact (hF z h0 (by omega)).1) m2
      rw [cg_L] at T3
      refine ⟨⟨h0, by omega, MB_rows hM m4 m5 m6 m7, by rw [n5]; exact ⟨by omega, by omega⟩, by rw [n4]; exact ⟨by omega, by omega⟩⟩, fun r28 e28 s26 e26 => ?_⟩
      rw [e28, e26]
      exact add n ih _ z _ hn h0 (by omega) T2 T3 T1
theorem v_X3_update (σ : St) (hp : pre_X3_update σ) : V_X3_update σ (post_X3_update σ) := by
  obtain ⟨hM, hW, hG, hF⟩ := id hp
  obtain ⟨⟨t0, t1⟩, hT, hR⟩ := cgW hW
  refine ⟨trivial, fun s2 e2 => ⟨trivial, fun r7 e7 => ?_⟩⟩
  have r1 : ∀ q, q ≠ 61 → q ≠ 77 → s2 q = σ q := fun q a b => by
    rw [e2]
    unfold eff_X3_clear
    rw [up_n _ _ _ a, up_n _ _ _ a, up_n _ _ _ a, up_n _ _ _ a, up_n _ _ _ a, ur_n _ _ b]
  have r61 : s2 61 = ui (ui (ui (ui (ui (σ 61) 11 0) 12 0) 13 0) 14 0) 15 0 := by
    rw [e2]
    unfold eff_X3_clear
    rw [up_s, up_s, up_s, up_s, up_s, ur_n _ _ (by decide)]
  have r77 : ∀ q, 0 ≤ q → q < 100 → s2 77 q = -1 := fun q a b => by
    rw [e2]
    unfold eff_X3_clear
    rw [up_n _ _ _ (by decide), up_n _ _ _ (by decide), up_n _ _ _ (by decide), up_n _ _ _ (by decide), up_n _ _ _ (by decide), ur_s, if_pos ⟨a, b⟩]
  have c11 : s2 61 11 = 0 := by rw [r61, ui_n _ _ (by decide), ui_n _ _ (by decide), ui_n _ _ (by decide), ui_n _ _ (by decide), ui_s]
  have e7 : r7 = σ 1 4 := by rw [e7]; show s2 1 4 = _; rw [r1 1 (by decide) (by decide)]
  rw [e7]
  refine ⟨(σ 1 4).toNat + 1, l_X3_update σ hp _ (fun s hI => ?_) _ 0 0 s2 (by omega) (by omega) t0 t0 ⟨fun q a => r1 q (by omega) (by omega), by rw [c11]; exact ⟨by decide, by decide⟩, fun j a b => by rw [c11] at b; omega, fun i j a b c => by rw [c11] at c; omega, fun q a b c => absurd (r77 q a b) c, fun k q a b => ?_, fun j a b => by rw [c11] at b; omega, by decide, 0, rfl, ?_, ?_, ?_, ?_⟩⟩
  · obtain ⟨i1, i2, i3, i4, i5, i6, i7, i8, i9⟩ := hI
    refine ⟨i1, ⟨i2.1, by rw [cg_L]; exact i2.2⟩, fun j a b => (i3 j a b).1, i4, fun k q a => ?_, fun j a b k q c => ?_, ?_⟩
    · rcases i6 k q a (by have := a.2.choose_spec.2.1; rw [cg_L] at this; exact this) with u | ⟨u1, u2, u3⟩
      · exact u
      · have := a.2.choose_spec.2.1
        rw [cg_L] at this
        omega
    · rcases i7 j a b k q c with u | ⟨u1, u2, u3⟩
      · exact u
      · exfalso
        obtain ⟨v1, v2, v3, v4, v5, v6, v7⟩ := (i3 j a b).1
        obtain ⟨y1, m, y2, y3⟩ := c
        rw [← y2] at y1
        have h1 := (ch_at hW hG v1 ⟨v2.1, by omega⟩ v3 v4 y1)
        have h2 := (tr_ok hW hG v1 ⟨v2.1, by omega⟩ v3 v4 (m + 1)).2.1
        rw [y3] at h1
        rw [cg_L] at h2
        omega
    · obtain ⟨N, n1, n2, n3, n4, n5⟩ := i9
      exact ⟨N, by rw [n1, cg_L]; exact Int.le_refl _, n2, n3, n5⟩
  · obtain ⟨w1, N, w3, w4, w5⟩ := a
    have := (tp_ok hW hG N).1
    omega
  · rw [r61, ui_n _ _ (by decide), ui_n _ _ (by decide), ui_n _ _ (by decide), ui_s]; rfl
  · rw [r61, ui_n _ _ (by decide), ui_n _ _ (by decide), ui_s]; rfl
  · rw [r61, ui_n _ _ (by decide), ui_s]; rfl
  · rw [r61, ui_s]; rfl
